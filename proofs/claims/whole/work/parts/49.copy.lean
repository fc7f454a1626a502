/-! ===== copy ===== -/
theorem i64_add (x y : Int32) : (x.toInt64 + y.toInt64).toInt = x.toInt + y.toInt := by
  have h1 := x.toInt_lt
  have h2 := x.le_toInt
  have h3 := y.toInt_lt
  have h4 := y.le_toInt
  rw [Int64.toInt_add, Int32.toInt_toInt64, Int32.toInt_toInt64, Int.bmod_eq_of_le] <;> omega
theorem i64_nI {z : Nat} (hz : z ≤ 40) : (nI z).toInt64.toInt = (z : Int) := by
  rw [Int32.toInt_toInt64, nI_toInt (by omega)]
theorem ineg {a : Int32} : a < 0 ↔ a.toInt < 0 := Int32.lt_iff_toInt_lt
theorem c_part {s z : Nat} {a n : Int32} {σ : fh_S} (hs : s < 4) (hz : z ≤ 40) (h : σ (35 + 2 * s) 2 = nI z) : f_X2_hasPart (35 + 2 * s) a n σ = some (if 0 ≤ a.toInt ∧ 0 ≤ n.toInt ∧ a.toInt + n.toInt ≤ z then 1 else 0, σ) := by
  unfold f_X2_hasPart
  rw [ob_S hs]
  simp only [gi_S2 hs, bd_s, h]
  have hzi : (nI z).toInt = (z : Int) := nI_toInt (by omega)
  by_cases h1 : a < 0
  · have := ineg.mp h1
    rw [if_pos h1, if_neg (by omega)]
    rfl
  · rw [if_neg h1]
    rw [ineg] at h1
    by_cases h2 : n < 0
    · have := ineg.mp h2
      rw [if_pos h2, if_neg (by omega)]
      rfl
    · rw [if_neg h2]
      rw [ineg] at h2
      by_cases h3 : nI z < n
      · have := Int32.lt_iff_toInt_lt.mp h3
        rw [if_pos h3, if_neg (by omega)]
        rfl
      · rw [if_neg h3]
        rw [Int32.lt_iff_toInt_lt] at h3
        have e : (nI z - n).toInt = (z : Int) - n.toInt := by
          rw [sm_sub (by omega) (by omega), hzi]
        by_cases h4 : nI z - n < a
        · have := Int32.lt_iff_toInt_lt.mp h4
          rw [if_pos h4, if_neg (by omega)]
          rfl
        · rw [if_neg h4]
          rw [Int32.lt_iff_toInt_lt] at h4
          rw [if_pos (by omega)]
          rfl
theorem cp_cond {α : Type} {b d e : Int32} {z z' : Nat} (hz : z ≤ 40) (hz' : z' ≤ 40) {J F : α} : (if b < 0 then J else if d < 0 then J else if e < 0 then J else if 0 < lg_cmp (b.toInt64 + e.toInt64) (nI z).toInt64 then J else if lg_cmp (d.toInt64 + e.toInt64) (nI z').toInt64 ≤ 0 then F else J) = if (0 ≤ b.toInt ∧ 0 ≤ e.toInt ∧ b.toInt + e.toInt ≤ z) ∧ (0 ≤ d.toInt ∧ 0 ≤ e.toInt ∧ d.toInt + e.toInt ≤ z') then F else J := by
  by_cases h1 : b < 0
  · have := ineg.mp h1
    rw [if_pos h1, if_neg (by omega)]
  · rw [if_neg h1]
    rw [ineg] at h1
    by_cases h2 : d < 0
    · have := ineg.mp h2
      rw [if_pos h2, if_neg (by omega)]
    · rw [if_neg h2]
      rw [ineg] at h2
      by_cases h3 : e < 0
      · have := ineg.mp h3
        rw [if_pos h3, if_neg (by omega)]
      · rw [if_neg h3]
        rw [ineg] at h3
        have g1 : (0 < lg_cmp (b.toInt64 + e.toInt64) (nI z).toInt64) ↔ (z : Int) < b.toInt + e.toInt := by
          rw [lg_cmp_gt, Int64.lt_iff_toInt_lt, i64_add, i64_nI hz]
        have g2 : (lg_cmp (d.toInt64 + e.toInt64) (nI z').toInt64 ≤ 0) ↔ d.toInt + e.toInt ≤ (z' : Int) := by
          rw [lg_cmp_le, Int64.le_iff_toInt_le, i64_add, i64_nI hz']
        by_cases h4 : (z : Int) < b.toInt + e.toInt
        · rw [if_pos (g1.mpr h4), if_neg (by omega)]
        · rw [if_neg (fun h => h4 (g1.mp h))]
          by_cases h5 : d.toInt + e.toInt ≤ (z' : Int)
          · rw [if_pos (g2.mpr h5), if_pos (by omega)]
          · rw [if_neg (fun h => h5 (g2.mp h)), if_neg (by omega)]
theorem CR.nums {σ A : fh_S} {t : Nat} {f g : fh_Rw} (h : CR σ A) (ht : t < 4) (hf : ∀ j, j < 40 → f j = g (40 * t + j)) (hg : ∀ s, s < 4 → s ≠ t → ∀ j, j < 40 → g (40 * s + j) = A 55 (40 * s + j)) : CR (fh_row σ (36 + 2 * t) f) (fh_row A 55 g) := by
  obtain ⟨h1, h2, h3, h4, h5, h6, h7⟩ := h
  unfold CR
  rw [fh_row_n (σ := A) (show 45 ≠ 55 by omega), fh_row_n (σ := A) (show 46 ≠ 55 by omega), fh_row_n (σ := A) (show 48 ≠ 55 by omega), fh_row_n (σ := A) (show 44 ≠ 55 by omega), fh_row_n (σ := A) (show 53 ≠ 55 by omega), fh_row_n (σ := A) (show 54 ≠ 55 by omega), fh_row_n (σ := A) (show 50 ≠ 55 by omega), fh_row_s]
  refine ⟨h1.mv (fun k _ _ => fh_row_n (by omega)), fun e => (h2 e).mv (fun k _ _ => fh_row_n (by omega)), by rw [fh_row_n (by omega)]; exact h3, fun j hj => by rw [fh_row_n (by omega)]; exact h4 j hj, by rw [fh_row_n (by omega)]; exact h5, fun j hj => by rw [fh_row_n (by omega)]; exact h6 j hj, fun s' hs' => ?_⟩
  obtain ⟨a1, a2, a3⟩ := h7 s' hs'
  rw [fh_row_n (show 35 + 2 * s' ≠ 36 + 2 * t by omega)]
  refine ⟨a1, a2, fun j' hj' => ?_⟩
  by_cases q : s' = t
  · subst q
    rw [fh_row_s]
    exact hf j' hj'
  · rw [fh_row_n (by omega), hg s' hs' q j' hj']
    exact a3 j' hj'
theorem RR.nums {σ σ' A : fh_S} {g : fh_Rw} (h : RR σ A) (hG : σ' 55 = g) (hk : ∀ k, 44 ≤ k → k ≠ 55 → k ≠ 56 → σ' k = σ k) : RR σ' (fh_row A 55 g) := by
  obtain ⟨h1, h2, h3, h4, h5, h6, h7, h8, h9⟩ := h
  unfold RR
  simp only [fh_row_n (show 45 ≠ 55 by omega), fh_row_n (show 46 ≠ 55 by omega), fh_row_n (show 48 ≠ 55 by omega), fh_row_n (show 44 ≠ 55 by omega), fh_row_n (show 53 ≠ 55 by omega), fh_row_n (show 54 ≠ 55 by omega), fh_row_n (show 50 ≠ 55 by omega), fh_row_s]
  rw [hk 45 (by omega) (by omega) (by omega), hk 46 (by omega) (by omega) (by omega), hk 44 (by omega) (by omega) (by omega), hk 48 (by omega) (by omega) (by omega), hk 50 (by omega) (by omega) (by omega), hk 53 (by omega) (by omega) (by omega), hk 54 (by omega) (by omega) (by omega)]
  exact ⟨h1, h2, h3, h4, h5, h6, h7, h8, hG⟩
theorem AI.nums {A : fh_S} {N : Nat} {g : fh_Rw} (h : AI A N) : AI (fh_row A 55 g) N := by
  unfold AI
  simp only [fh_row_n (show 45 ≠ 55 by omega), fh_row_n (show 46 ≠ 55 by omega), fh_row_n (show 48 ≠ 55 by omega), fh_row_n (show 44 ≠ 55 by omega), fh_row_n (show 53 ≠ 55 by omega), fh_row_n (show 54 ≠ 55 by omega), fh_row_n (show 50 ≠ 55 by omega)]
  exact h
def mv_ (m : fh_Rw) (u w k : Nat) : fh_Rw := fun j => if w ≤ j ∧ j < w + k then m (u + (j - w)) else m j
theorem mv_0 {m : fh_Rw} {u w : Nat} : mv_ m u w 0 = m := by
  funext j
  unfold mv_
  rw [if_neg (by omega)]
theorem mv_s {m : fh_Rw} {u w k : Nat} : upd (mv_ m u w k) (w + k) (m (u + k)) = mv_ m u w (k + 1) := by
  funext j
  by_cases h : j = w + k
  · subst h
    rw [pk_us]
    unfold mv_
    rw [if_pos (by omega), show w + k - w = k by omega]
  · rw [pk_un h]
    unfold mv_
    by_cases q : w ≤ j ∧ j < w + k
    · rw [if_pos q, if_pos (show w ≤ j ∧ j < w + (k + 1) by omega)]
    · rw [if_neg q, if_neg (by omega)]
theorem at_55' (s p j : Nat) : (40 : Int32) * nI s + nI p + nI j = nI (40 * s + p + j) := by
  rw [at_55, nI_add]
theorem r_mvA {s t p q n : Nat} {σ0 : fh_S} (hs : s < 4) (ht : t < 4) (hp : p + n ≤ 40) : ∀ (k i : Nat), i + k = n → ∀ fu : Nat, k < fu → ∀ σ : fh_S, (∀ a, a ≠ 56 → σ a = σ0 a) → (∀ j, j < i → σ 56 j = σ0 55 (40 * s + p + j)) →
    ∃ σ', fh_fx (ρ := Int32 → fh_S → Option (Int32 × fh_S)) (fun _ _ => none) (f_X5_copy_B128 (nI n) 44 (nI t) (nI q) (nI s) (nI p)) fu (nI i) σ = fh_fx (ρ := Int32 → fh_S → Option (Int32 × fh_S)) (fun _ _ => none) (f_X5_copy_B165 (nI n) 44 (nI t) (nI q)) fh_fu 0 σ' ∧ (∀ a, a ≠ 56 → σ' a = σ0 a) ∧ (∀ j, j < n → σ' 56 j = σ0 55 (40 * s + p + j)) := by
  intro k
  induction k with
  | zero =>
    intro i hi fu hfu σ ha hj
    obtain ⟨f, rfl⟩ : ∃ f, fu = f + 1 := ⟨fu - 1, by omega⟩
    rw [fx_s, e_X5_copy_B128, if_pos (nI_le (by omega) (by omega))]
    exact ⟨σ, rfl, ha, fun j h => hj j (by omega)⟩
  | succ k ih =>
    intro i hi fu hfu σ ha hj
    obtain ⟨f, rfl⟩ : ∃ f, fu = f + 1 := ⟨fu - 1, by omega⟩
    rw [fx_s, e_X5_copy_B128, if_neg (nI_ge (by omega) (by omega)), gr_44_20, bd_s, gr_44_19, bd_s, at_55', ld_55 (by omega), bd_s, st_56 (by omega), bd_s, nI_1, ha 55 (by omega)]
    refine ih (i + 1) (by omega) f (by omega) _ (fun a h => by rw [fs_o h]; exact ha a h) (fun j h => ?_)
    by_cases e : j = i
    · subst e; rw [fs_s]
    · rw [fs_ne e]; exact hj j (by omega)
theorem r_mvB {s t p q n : Nat} {σ0 : fh_S} (hs : s < 4) (ht : t < 4) (hq : q + n ≤ 40) (h56 : ∀ j, j < n → σ0 56 j = σ0 55 (40 * s + p + j)) : ∀ (k i : Nat), i + k = n → ∀ fu : Nat, k < fu → ∀ σ : fh_S, (∀ a, a ≠ 55 → σ a = σ0 a) → σ 55 = mv_ (σ0 55) (40 * s + p) (40 * t + q) i →
    ∃ σ', fh_fx (ρ := Int32 → fh_S → Option (Int32 × fh_S)) (fun _ _ => none) (f_X5_copy_B165 (nI n) 44 (nI t) (nI q)) fu (nI i) σ = some (nI n, σ') ∧ (∀ a, a ≠ 55 → σ' a = σ0 a) ∧ σ' 55 = mv_ (σ0 55) (40 * s + p) (40 * t + q) n := by
  intro k
  induction k with
  | zero =>
    intro i hi fu hfu σ ha hj
    obtain ⟨f, rfl⟩ : ∃ f, fu = f + 1 := ⟨fu - 1, by omega⟩
    have : i = n := by omega
    subst this
    rw [fx_s, e_X5_copy_B165, if_pos (nI_le (by omega) (by omega))]
    exact ⟨σ, rfl, ha, hj⟩
  | succ k ih =>
    intro i hi fu hfu σ ha hj
    obtain ⟨f, rfl⟩ : ∃ f, fu = f + 1 := ⟨fu - 1, by omega⟩
    rw [fx_s, e_X5_copy_B165, if_neg (nI_ge (by omega) (by omega)), gr_44_19, bd_s, gr_44_20, bd_s, ld_56 (by omega), bd_s, at_55', st_55 (by omega), bd_s, nI_1, ha 56 (by omega), h56 i (by omega)]
    refine ih (i + 1) (by omega) f (by omega) _ (fun a h => by rw [fs_o h]; exact ha a h) ?_
    rw [fs_row, hj, show 40 * t + q + i = (40 * t + q) + i from rfl, show 40 * s + p + i = (40 * s + p) + i from rfl, mv_s]
theorem cp_S {s t p u n : Nat} {σ : fh_S} (hs : s < 4) (ht : t < 4) (h1 : p + n ≤ 40) (h2 : u + n ≤ 40) : fh_cp σ (36 + 2 * s) (nI p) (36 + 2 * t) (nI u) (nI n) = some (fh_row σ (36 + 2 * t) (va_cpy (σ (36 + 2 * s)) (σ (36 + 2 * t)) p u n)) := by
  unfold fh_cp
  rw [ar_S hs, ar_S ht, bd_s, bd_s, nI_clamp (show p < 2 ^ 31 by omega), nI_clamp (show u < 2 ^ 31 by omega), nI_clamp (show n < 2 ^ 31 by omega), if_neg]
  rintro (h | h | h | h | h)
  · exact nI_pos (show p < 2 ^ 31 by omega) h
  · exact nI_pos (show u < 2 ^ 31 by omega) h
  · exact nI_pos (show n < 2 ^ 31 by omega) h
  · omega
  · omega
theorem s_copy (a b c d e : Int32) : fh_Stp (f_X4_copy 0 a b c d e) (f_X5_copy 44 a b c d e) := by
  apply fh_Stp.mk
  intro N A σ τ hN hA hC hR
  unfold f_X4_copy f_X5_copy
  rw [ob_H, ob_M, c_isSheet, fh_cb_s, r_isSheet, fh_cb_s, jn_s, jn_s]
  rcases wb_or a 0 3 with q | ⟨q, -⟩
  · rw [q, if_pos rfl, if_pos rfl, e_X4_copy_J14, e_X5_copy_J14, cb_id, cb_id]
    exact ⟨_, _, hA.tell (by omega), c_tell0 hC, r_find0 hR⟩
  · obtain ⟨s, hs, rfl⟩ := wb_nI (a := a) (h := 3) (by omega) q
    have hs : s < 4 := by omega
    rw [q, if_neg ne01, if_neg ne01, c_isSheet, fh_cb_s, r_isSheet, fh_cb_s]
    rcases wb_or c 0 3 with q2 | ⟨q2, -⟩
    · rw [q2, if_pos rfl, if_pos rfl, e_X4_copy_J14, e_X5_copy_J14, cb_id, cb_id]
      exact ⟨_, _, hA.tell (by omega), c_tell0 hC, r_find0 hR⟩
    · obtain ⟨t, ht, rfl⟩ := wb_nI (a := c) (h := 3) (by omega) q2
      have ht : t < 4 := by omega
      obtain ⟨-, z, hz, ez⟩ := hA.2.2.2.2.1 s hs
      obtain ⟨-, z', hz', ez'⟩ := hA.2.2.2.2.1 t ht
      rw [q2, if_neg ne01, if_neg ne01]
      simp only [gr_0_5, bd_s, lr_s hs, lr_s ht, c_miss hs hC, c_miss ht hC, fh_cb_s, gr_44_17, ld_53 hs, ld_53 ht, jn_s, hR.2.2.2.2.2.2.1]
      by_cases w : A 53 s = 0
      · rw [if_pos w, if_pos w, if_neg ne01, e_X4_copy_J53, e_X5_copy_J39, cb_id, cb_id]
        exact ⟨_, _, hA.tell (by omega), c_tell5 hC, r_find5 hR⟩
      · rw [if_neg w, if_neg w, if_pos rfl]
        by_cases w2 : A 53 t = 0
        · rw [if_pos w2, if_pos w2, if_neg ne01, e_X4_copy_J53, e_X5_copy_J39, cb_id, cb_id]
          exact ⟨_, _, hA.tell (by omega), c_tell5 hC, r_find5 hR⟩
        · rw [if_neg w2, if_neg w2, if_pos rfl]
          simp only [gi_S1 hs, gi_S1 ht, bd_s]
          rw [(hC.sh hs).1, (hC.sh ht).1]
          by_cases w3 : A 53 s = A 53 t
          · rw [if_pos w3, if_pos w3]
            simp only [gr_44_18, bd_s, ld_54 hs, ld_54 ht]
            rw [hR.2.2.2.2.2.2.2.1, ez, ez', cp_cond hz hz', c_part hs hz (by rw [(hC.sh hs).2.1, ez]), fh_cb_s]
            by_cases P : 0 ≤ b.toInt ∧ 0 ≤ e.toInt ∧ b.toInt + e.toInt ≤ (z : Int)
            · rw [if_pos P, if_neg ne01, c_part ht hz' (by rw [(hC.sh ht).2.1, ez']), fh_cb_s]
              by_cases P' : 0 ≤ d.toInt ∧ 0 ≤ e.toInt ∧ d.toInt + e.toInt ≤ (z' : Int)
              · rw [if_pos P', if_neg ne01, if_pos ⟨P, P'⟩, gr_S0 hs, bd_s, gr_S0 ht, bd_s]
                obtain ⟨p, hp, rfl⟩ := nI_of (x := b) (fun h => by have := ineg.mp h; omega)
                obtain ⟨n, hn, rfl⟩ := nI_of (x := e) (fun h => by have := ineg.mp h; omega)
                obtain ⟨u, hu, rfl⟩ := nI_of (x := d) (fun h => by have := ineg.mp h; omega)
                rw [nI_toInt hp, nI_toInt hn] at P
                rw [nI_toInt hu, nI_toInt hn] at P'
                obtain ⟨τ1, e1, a1, b1⟩ := r_mvA (σ0 := τ) (p := p) (q := u) (n := n) hs ht (by omega) n 0 (by omega) fh_fu (by unfold fh_fu; omega) τ (fun _ _ => rfl) (fun j h => by omega)
                obtain ⟨τ2, e2, a2, b2⟩ := r_mvB (σ0 := τ1) (s := s) (t := t) (p := p) (q := u) (n := n) hs ht (by omega) (fun j h => by rw [b1 j h, a1 55 (by omega)]) n 0 (by omega) fh_fu (by unfold fh_fu; omega) τ1 (fun _ _ => rfl) mv_0.symm
                rw [a1 55 (by omega), hR.2.2.2.2.2.2.2.2] at b2
                rw [cp_S hs ht (by omega) (by omega), bd_s]
                refine ⟨_, fh_row A 55 (mv_ (A 55) (40 * s + p) (40 * t + u) n), (hA.mono (by omega)).nums, ⟨_, rfl, hC.nums ht (fun j hj => ?_) (fun s' hs' ne j hj => ?_), fun k hk => fh_row_n (by omega)⟩, ⟨τ2, e1.trans e2, hR.nums b2 (fun k hk h1 h2 => by rw [a2 k h1, a1 k h2]), fun k hk => by rw [a2 k (by omega), a1 k (by omega)]⟩⟩
                · unfold mv_
                  by_cases h : u ≤ j ∧ j < u + n
                  · rw [pk_cpy_in h.1 h.2, if_pos (by omega), (hC.sh hs).2.2 _ (by omega)]
                    congr 1
                    omega
                  · rw [pk_cpy_out (by omega), if_neg (by omega), (hC.sh ht).2.2 _ hj]
                · unfold mv_
                  rw [if_neg (by omega)]
              · rw [if_neg P', if_pos rfl, if_neg (fun h => P' h.2), e_X4_copy_J103, e_X5_copy_J118, cb_id, cb_id]
                exact ⟨_, _, hA.tell (by omega), c_tell0 hC, r_find0 hR⟩
            · rw [if_neg P, if_pos rfl, if_neg (fun h => P h.1), e_X4_copy_J103, e_X5_copy_J118, cb_id, cb_id]
              exact ⟨_, _, hA.tell (by omega), c_tell0 hC, r_find0 hR⟩
          · rw [if_neg w3, if_neg w3, cb_id, cb_id]
            exact ⟨_, _, hA.tell (by omega), c_tell2 hC, r_find2 hR⟩
