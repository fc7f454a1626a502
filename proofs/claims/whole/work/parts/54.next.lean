/-! ===== text: the reference's tokens ===== -/
def TR (σ : fh_S) (B : fh_Rw) (l : Nat) : Prop := σ 44 7 = nI l ∧ ∀ j, j < 120 → σ 50 j = B j
theorem TR.mv {σ σ' : fh_S} {B : fh_Rw} {l : Nat} (h : TR σ B l) (h1 : σ' 44 7 = σ 44 7) (h2 : σ' 50 = σ 50) : TR σ' B l := by
  unfold TR
  rw [h1, h2]
  exact h
theorem r_byte {σ : fh_S} {B : fh_Rw} {l j : Nat} (hl : l ≤ 120) (h : TR σ B l) (hj : j < 1000) : f_X5_byteAt 44 (nI j) σ = some (xbt_ B l j, σ) := by
  unfold f_X5_byteAt
  rw [ob_M, gi_44_7, bd_s, h.1]
  by_cases q : l ≤ j
  · rw [if_pos (nI_le q (by omega)), xbt_out q]
  · rw [if_neg (nI_ge (by omega) (by omega)), gr_44_6, bd_s, ld_50 (by omega), bd_s, h.2 j (by omega), xbt_in (by omega)]
theorem r_leL {B : fh_Rw} {l : Nat} (hl : l ≤ 120) : ∀ (k p : Nat), p + k = 121 → p ≤ l → ∀ fu : Nat, k < fu → ∀ σ : fh_S, TR σ B l → σ 44 9 = nI p →
    ∃ σ', fh_fx (ρ := fh_S → Option (Unit × fh_S)) (fun _ => none) (f_X5_next_B84 44) fu σ = some ((), σ') ∧ σ' 44 9 = nI (xle_ (xbt_ B l) k p) ∧ (∀ j, j ≠ 9 → σ' 44 j = σ 44 j) ∧ ∀ a, a ≠ 44 → σ' a = σ a := by
  intro k
  induction k with
  | zero => intro p h1 h2; omega
  | succ k ih =>
    intro p h1 h2 fu hfu σ hT e
    obtain ⟨f, rfl⟩ : ∃ f, fu = f + 1 := ⟨fu - 1, by omega⟩
    rw [fx_s, e_X5_next_B84, gi_44_9, bd_s, e, r_byte hl hT (by omega), fh_cb_s, r_within, fh_cb_s]
    unfold xle_
    by_cases w : wb (xbt_ B l p) 97 122 = 0
    · rw [if_pos w, if_pos w]
      exact ⟨σ, rfl, e, fun _ _ => rfl, fun _ _ => rfl⟩
    · have hp : p < l := by
        apply Nat.lt_of_le_of_ne h2
        intro z
        rw [xbt_out (by omega), wb_out (by decide)] at w
        exact w rfl
      rw [if_neg w, if_neg w, gi_44_9, bd_s, pf_44_9, bd_s, e, nI_1]
      obtain ⟨σ', e1, a1, a2, a3⟩ := ih (p + 1) (by omega) (by omega) f (by omega) (fs σ 44 9 (nI (p + 1))) (hT.mv (fs_ne (by omega)) (fs_o (by omega))) fs_s
      exact ⟨σ', e1, a1, fun j hj => by rw [a2 j hj, fs_ne hj], fun a ha => by rw [a3 a ha, fs_o ha]⟩
theorem r_dgL {B : fh_Rw} {l : Nat} (hl : l ≤ 120) : ∀ (k p : Nat), p + k = 121 → p ≤ l → ∀ fu : Nat, k < fu → ∀ (v : Int32) (σ : fh_S), TR σ B l → σ 44 9 = nI p → σ 44 11 = v →
    ∃ σ', fh_fx (ρ := fh_S → Option (Unit × fh_S)) (fun _ => none) (f_X5_next_B131 44) fu σ = some ((), σ') ∧ σ' 44 9 = nI (xdg_ (xbt_ B l) k p v).1 ∧ σ' 44 11 = (xdg_ (xbt_ B l) k p v).2 ∧ (∀ j, j ≠ 9 → j ≠ 11 → σ' 44 j = σ 44 j) ∧ ∀ a, a ≠ 44 → σ' a = σ a := by
  intro k
  induction k with
  | zero => intro p h1 h2; omega
  | succ k ih =>
    intro p h1 h2 fu hfu v σ hT e ev
    obtain ⟨f, rfl⟩ : ∃ f, fu = f + 1 := ⟨fu - 1, by omega⟩
    rw [fx_s, e_X5_next_B131, gi_44_9, bd_s, e, r_byte hl hT (by omega), fh_cb_s, r_within, fh_cb_s]
    unfold xdg_
    by_cases w : wb (xbt_ B l p) 48 57 = 0
    · rw [if_pos w, if_pos w]
      exact ⟨σ, rfl, e, ev, fun _ _ _ => rfl, fun _ _ => rfl⟩
    · have hp : p < l := by
        apply Nat.lt_of_le_of_ne h2
        intro z
        rw [xbt_out (by omega), wb_out (by decide)] at w
        exact w rfl
      rw [if_neg w, if_neg w, gi_44_11, bd_s, gi_44_9, bd_s, e, r_byte hl hT (by omega), fh_cb_s, j_min, fh_cb_s, pf_44_11, bd_s, gi_44_9, bd_s, pf_44_9, bd_s, fs_ne (show 9 ≠ 11 by omega), e, ev, nI_1]
      obtain ⟨σ', e1, a1, a2, a3, a4⟩ := ih (p + 1) (by omega) (by omega) f (by omega) (mn_ 1000 (10 * v + xbt_ B l p - 48)) (fs (fs σ 44 11 (mn_ 1000 (10 * v + xbt_ B l p - 48))) 44 9 (nI (p + 1))) (hT.mv (by rw [fs_ne (by omega), fs_ne (by omega)]) (by rw [fs_o (by omega), fs_o (by omega)])) fs_s (by rw [fs_ne (by omega), fs_s])
      exact ⟨σ', e1, a1, a2, fun j h3 h4 => by rw [a3 j h3 h4, fs_ne h3, fs_ne h4], fun a ha => by rw [a4 a ha, fs_o ha, fs_o ha]⟩
/-- what is the token from q on -/
def TK (c : fh_Rw) (b : fh_Rw) (q : Nat) : Prop := c 10 = nI (xts_ b q) ∧ c 8 = nI (xtb_ b q) ∧ c 9 = nI (xte_ b q) ∧ (xts_ b q = 2 → c 11 = xtv_ b q)
theorem r_skL {B : fh_Rw} {l : Nat} (hl : l ≤ 120) : ∀ (k p : Nat), p + k = 121 → p ≤ l → ∀ q : Nat, xtb_ (xbt_ B l) q = xsk_ (xbt_ B l) k p → ∀ fu : Nat, k < fu → ∀ σ : fh_S, TR σ B l → σ 44 8 = nI p →
    ∃ σ', fh_fx (ρ := fh_S → Option (Unit × fh_S)) (fun _ => none) (f_X5_next_B8 44) fu σ = some ((), σ') ∧ TK (σ' 44) (xbt_ B l) q ∧ (∀ j, j < 8 ∨ 11 < j → σ' 44 j = σ 44 j) ∧ ∀ a, a ≠ 44 → σ' a = σ a := by
  intro k
  induction k with
  | zero => intro p h1 h2; omega
  | succ k ih =>
    intro p h1 h2 q hq fu hfu σ hT e
    obtain ⟨f, rfl⟩ : ∃ f, fu = f + 1 := ⟨fu - 1, by omega⟩
    rw [fx_s, e_X5_next_B8, gi_44_8, bd_s, e, r_byte hl hT (by omega), fh_cb_s]
    unfold xsk_ at hq
    by_cases w : xbt_ B l p = 32
    · have hp : p < l := by
        apply Nat.lt_of_le_of_ne h2
        intro z
        rw [xbt_out (by omega)] at w
        exact absurd w (by decide)
      rw [if_pos w] at hq
      rw [if_pos w, gi_44_8, bd_s, pf_44_8, bd_s, e, nI_1]
      obtain ⟨σ', e1, a1, a2, a3⟩ := ih (p + 1) (by omega) (by omega) q hq f (by omega) (fs σ 44 8 (nI (p + 1))) (hT.mv (fs_ne (by omega)) (fs_o (by omega))) fs_s
      exact ⟨σ', e1, a1, fun j hj => by rw [a2 j hj, fs_ne (by omega)], fun a ha => by rw [a3 a ha, fs_o ha]⟩
    · rw [if_neg w] at hq
      subst hq
      rw [if_neg w, gi_44_8, bd_s, e, r_byte hl hT (by omega), fh_cb_s, gi_44_8, bd_s, pf_44_9, bd_s, pf_44_11, bd_s, e]
      have hT2 : TR (fs (fs σ 44 9 (nI (xtb_ (xbt_ B l) q))) 44 11 0) B l := hT.mv (by rw [fs_ne (by omega), fs_ne (by omega)]) (by rw [fs_o (by omega), fs_o (by omega)])
      unfold TK xts_ xte_ xtv_
      by_cases q0 : 0 ≤ xbt_ B l (xtb_ (xbt_ B l) q)
      · rw [if_pos q0, r_within, fh_cb_s, if_pos q0, if_pos q0]
        by_cases q1 : wb (xbt_ B l (xtb_ (xbt_ B l) q)) 97 122 = 0
        · rw [if_pos q1, r_within, fh_cb_s, if_pos q1, if_pos q1]
          by_cases q2 : wb (xbt_ B l (xtb_ (xbt_ B l) q)) 48 57 = 0
          · rw [if_pos q2, if_pos q2, if_pos q2, pf_44_10, bd_s, gi_44_9, bd_s, pf_44_9, bd_s, fs_ne (show 9 ≠ 10 by omega), fs_ne (show 9 ≠ 11 by omega), fs_s, nI_1]
            refine ⟨_, rfl, ⟨by rw [fs_ne (by omega), fs_s]; rfl, by rw [fs_ne (by omega), fs_ne (by omega), fs_ne (by omega), fs_ne (by omega)]; exact e, fs_s, fun h => by omega⟩, fun j hj => by rw [fs_ne (by omega), fs_ne (by omega), fs_ne (by omega), fs_ne (by omega)], fun a ha => by rw [fs_o ha, fs_o ha, fs_o ha, fs_o ha]⟩
          · rw [if_neg q2, if_neg q2, if_neg q2, pf_44_10, bd_s]
            obtain ⟨σ2, e2, c1, c2, c3, c4⟩ := r_dgL (B := B) hl (121 - xtb_ (xbt_ B l) q) (xtb_ (xbt_ B l) q) (by omega) h2 fh_fu (by unfold fh_fu; omega) 0 (fs (fs (fs σ 44 9 (nI (xtb_ (xbt_ B l) q))) 44 11 0) 44 10 2) (hT2.mv (by rw [fs_ne (by omega)]) (by rw [fs_o (by omega)])) (by rw [fs_ne (by omega), fs_ne (by omega), fs_s]) (by rw [fs_ne (by omega), fs_s])
            exact ⟨σ2, e2, ⟨by rw [c3 10 (by omega) (by omega), fs_s]; rfl, by rw [c3 8 (by omega) (by omega), fs_ne (by omega), fs_ne (by omega), fs_ne (by omega)]; exact e, c1, fun _ => c2⟩, fun j hj => by rw [c3 j (by omega) (by omega), fs_ne (by omega), fs_ne (by omega), fs_ne (by omega)], fun a ha => by rw [c4 a ha, fs_o ha, fs_o ha, fs_o ha]⟩
        · rw [if_neg q1, if_neg q1, if_neg q1, pf_44_10, bd_s]
          obtain ⟨σ2, e2, c1, c3, c4⟩ := r_leL (B := B) hl (121 - xtb_ (xbt_ B l) q) (xtb_ (xbt_ B l) q) (by omega) h2 fh_fu (by unfold fh_fu; omega) (fs (fs (fs σ 44 9 (nI (xtb_ (xbt_ B l) q))) 44 11 0) 44 10 1) (hT2.mv (by rw [fs_ne (by omega)]) (by rw [fs_o (by omega)])) (by rw [fs_ne (by omega), fs_ne (by omega), fs_s])
          exact ⟨σ2, e2, ⟨by rw [c3 10 (by omega), fs_s]; rfl, by rw [c3 8 (by omega), fs_ne (by omega), fs_ne (by omega), fs_ne (by omega)]; exact e, c1, fun h => by omega⟩, fun j hj => by rw [c3 j (by omega), fs_ne (by omega), fs_ne (by omega), fs_ne (by omega)], fun a ha => by rw [c4 a ha, fs_o ha, fs_o ha, fs_o ha]⟩
      · rw [if_neg q0, if_neg q0, if_neg q0, pf_44_10, bd_s]
        refine ⟨_, rfl, ⟨fs_s, by rw [fs_ne (by omega), fs_ne (by omega), fs_ne (by omega)]; exact e, by rw [fs_ne (by omega), fs_ne (by omega), fs_s], fun h => by omega⟩, fun j hj => by rw [fs_ne (by omega), fs_ne (by omega), fs_ne (by omega)], fun a ha => by rw [fs_o ha, fs_o ha, fs_o ha]⟩
theorem r_next {B : fh_Rw} {l q : Nat} {σ : fh_S} (hl : l ≤ 120) (hT : TR σ B l) (hq : q ≤ l) (e : σ 44 9 = nI q) :
    ∃ σ', f_X5_next 44 σ = some ((), σ') ∧ TK (σ' 44) (xbt_ B l) q ∧ (∀ j, j < 8 ∨ 11 < j → σ' 44 j = σ 44 j) ∧ ∀ a, a ≠ 44 → σ' a = σ a := by
  unfold f_X5_next
  rw [ob_M, gi_44_9, bd_s, pf_44_8, bd_s, e]
  obtain ⟨σ', e1, a1, a2, a3⟩ := r_skL (B := B) hl (121 - q) q (by omega) hq q rfl fh_fu (by unfold fh_fu; omega) (fs σ 44 8 (nI q)) (hT.mv (fs_ne (by omega)) (fs_o (by omega))) fs_s
  exact ⟨σ', e1, a1, fun j hj => by rw [a2 j hj, fs_ne (by omega)], fun a ha => by rw [a3 a ha, fs_o ha]⟩
/-! words -/
theorem w_len : ∀ i, i < 26 → fh_sl i ≤ 7 ∧ 4 ≤ fh_sl i := by decide
theorem j_len {i : Nat} {σ : fh_S} (hi : i < 26) : f_J0_length_8abf5 i σ = some (nI (fh_sl i), σ) := by
  unfold f_J0_length_8abf5 f_J0_coder_7d493 fh_sg
  rw [if_pos hi, if_pos hi, if_neg ne01]
  show fh_cb (some ((0 : Int32), σ)) _ = _
  rw [fh_cb_s]
  have := w_len i hi
  have h : ∀ n, n < 8 → Int32.ofNat n >>> ((0 : Int32) &&& 31) = nI n := by decide
  rw [h _ (by omega)]
def wc_ (i j : Nat) : Int32 := (fh_tx i).getD j 0
theorem w_chr : ∀ i, i < 26 → ∀ j, j < 7 → ¬ wc_ i j < 0 ∧ ¬ 65535 < wc_ i j ∧ (((wc_ i j &&& ((255 : Int32))).toUInt32 % 65536).toInt32) = wc_ i j := by decide +kernel
theorem j_chr {i j : Nat} {σ : fh_S} (hi : i < 26) (hj : j < fh_sl i) : f_J0_charAt_5068e i (nI j) σ = some (wc_ i j, σ) := by
  have hl := w_len i hi
  obtain ⟨h1, h2, h3⟩ := w_chr i hi j (by omega)
  unfold f_J0_charAt_5068e f_J0_isLatin1_aae02 f_J1_charAt_3b067 f_J0_checkIndex_df160 f_J3_checkIndex_8e157 fh_sg
  simp only [if_pos hi, jn_s]
  rw [if_neg ne01]
  show fh_cb (some ((1 : Int32), σ)) _ = _
  rw [fh_cb_s, if_neg ne01, if_neg (nI_pos (by omega)), if_pos (show nI j < Int32.ofNat (fh_sl i) from nI_lt hj (by omega)), fh_cb_s, fh_cb_s]
  unfold fh_sb
  rw [if_pos hi, if_neg (nI_in hj (by omega)), bd_s, nI_clamp (by omega)]
  show fh_cb (fh_rc (((wc_ i j &&& 255).toUInt32 % 65536).toInt32) σ) _ = _
  rw [h3]
  unfold fh_rc
  rw [if_neg (fun h => h.elim h1 h2), fh_cb_s, if_neg (fun h => h.elim h1 h2)]
