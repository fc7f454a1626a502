/-! ===== masters, kinds ===== -/
def sa_ (m : fh_Rw) (b d n : Nat) : Nat → Nat → fh_Rw → Bool
  | 0, _, _ => true
  | k + 1, i, ρ => if m (b + i) = -1 ∨ m (b + i) = ρ (13 + 6 * d + 1) then sa_ m b d n k (i + 1) (tk_ n ρ) else false
def bi_ (b : Bool) : Int32 := if b = true then 1 else 0
theorem bi_rz {b : Bool} {σ : fh_S} : fh_rz (bi_ b) σ = some (bi_ b, σ) := by cases b <;> rfl
theorem c_triedL {s d n z : Nat} {A : fh_S} (hs : s < 4) (hd : d < n) (hz : z ≤ 40) (ez : A 54 s = nI z) : ∀ (k i T : Nat), i + k = z → T + k < 99990 → ∀ fu : Nat, k < fu → ∀ (σ : fh_S) (ρ : fh_Rw), CR σ A → GR 21 σ ρ → RI ρ n T →
    ∃ σ', fh_fx (ρ := Int32 → fh_S → Option (Int32 × fh_S)) (fun _ _ => none) (f_X4_triedShowsAs_B2 (35 + 2 * s) 0 (nI d)) fu (nI i) σ = some (bi_ (sa_ (A 55) (40 * s) d n k i ρ), σ') ∧ CR σ' A ∧ ∀ b, ¬ (21 ≤ b ∧ b < 31) → σ' b = σ b := by
  intro k
  induction k with
  | zero =>
    intro i T hi hT fu hfu σ ρ hC hG hI
    obtain ⟨f, rfl⟩ : ∃ f, fu = f + 1 := ⟨fu - 1, by omega⟩
    rw [fx_s, e_X4_triedShowsAs_B2]
    simp only [gi_S2 hs, bd_s]
    rw [(hC.sh hs).2.1, ez, if_pos (nI_le (by omega) (by omega))]
    exact ⟨σ, rfl, hC, fun _ _ => rfl⟩
  | succ k ih =>
    intro i T hi hT fu hfu σ ρ hC hG hI
    obtain ⟨f, rfl⟩ : ∃ f, fu = f + 1 := ⟨fu - 1, by omega⟩
    have hn := hI.1
    rw [fx_s, e_X4_triedShowsAs_B2]
    simp only [gi_S2 hs, bd_s, gr_S0 hs, jn_s, gr_0_2, gr_G1 fhG21]
    rw [(hC.sh hs).2.1, ez, if_neg (nI_ge (by omega) (by omega)), ld_S hs (by omega), bd_s, (hC.sh hs).2.2 i (by omega), ld_G2 fhG21 (by omega), bd_s, hG.f1 (by omega)]
    obtain ⟨σ1, e1, g1, k1⟩ := c_tick fhG21 hG hI (by omega)
    have c1 : CR σ1 A := hC.mv (fun b _ hb _ => k1 b hb)
    obtain ⟨σ2, e2, c2, k2⟩ := ih (i + 1) (T + 1) (by omega) (by omega) f (by omega) σ1 _ c1 g1 hI.tick
    have go : f_X4_triedShowsAs_J40 0 (fh_fx (ρ := Int32 → fh_S → Option (Int32 × fh_S)) (fun _ _ => none) (f_X4_triedShowsAs_B2 (35 + 2 * s) 0 (nI d)) f) (nI i) σ = some (bi_ (sa_ (A 55) (40 * s) d n k (i + 1) (tk_ n ρ)), σ2) := by
      rw [e_X4_triedShowsAs_J40, gr_0_2, bd_s, e1, fh_cb_s, nI_1]
      exact e2
    have kk : ∀ b, ¬ (21 ≤ b ∧ b < 31) → σ2 b = σ b := fun b hb => by rw [k2 b hb]; exact k1 b hb
    unfold sa_
    by_cases q1 : A 55 (40 * s + i) = -1
    · rw [if_pos q1, if_pos (Or.inl q1), go]
      exact ⟨σ2, rfl, c2, kk⟩
    · rw [if_neg q1]
      by_cases q2 : A 55 (40 * s + i) = ρ (13 + 6 * d + 1)
      · rw [if_pos q2, if_pos (Or.inr q2), go]
        exact ⟨σ2, rfl, c2, kk⟩
      · rw [if_neg q2, if_neg (fun h => h.elim q1 q2)]
        exact ⟨σ, rfl, hC, fun _ _ => rfl⟩
theorem c_tried {s d n z T : Nat} {σ A : fh_S} {ρ : fh_Rw} (hs : s < 4) (hd : d < n) (hz : z ≤ 40) (ez : A 54 s = nI z) (hT : T < 99000) (hC : CR σ A) (hG : GR 21 σ ρ) (hI : RI ρ n T) :
    ∃ σ', f_X4_triedShowsAs 0 (35 + 2 * s) (nI d) σ = some (bi_ (sa_ (A 55) (40 * s) d n z 0 ρ), σ') ∧ CR σ' A ∧ ∀ b, ¬ (21 ≤ b ∧ b < 31) → σ' b = σ b := by
  unfold f_X4_triedShowsAs
  rw [ob_H]
  exact c_triedL hs hd hz ez z 0 T (by omega) (by omega) fh_fu (by unfold fh_fu; omega) σ ρ hC hG hI
theorem RB.back {σ A : fh_S} (h : RB σ A) : ∃ σ', f_X5_copyRow 47 45 σ = some ((), σ') ∧ RR σ' A ∧ ∀ k, k < 44 → σ' k = σ k := by
  obtain ⟨σ', e, h1, h2⟩ := r_copy ar_47 ar_45 (by omega) σ
  obtain ⟨g1, g2, g3⟩ := h
  refine ⟨σ', e, ?_, fun k hk => h2 k (by omega)⟩
  unfold RR
  rw [h2 46 (by omega), h2 44 (by omega), h2 48 (by omega), h2 50 (by omega), h2 53 (by omega), h2 54 (by omega), h2 55 (by omega)]
  refine ⟨?_, g3⟩
  funext j
  rw [h1 j]
  by_cases hj : j < 73
  · rw [if_pos hj]; exact g1 j hj
  · rw [if_neg hj]; exact g2 j (by omega)
theorem r_shown78 {σ A : fh_S} {b : Bool} (h : RB σ A) : rE (f_X5_isShownSo_J78 44 (bi_ b) σ) σ A (bi_ b) := by
  obtain ⟨σ', e, r, k⟩ := h.back
  rw [e_X5_isShownSo_J78, gr_44_2, bd_s, gr_44_0, bd_s, e, fh_cb_s, bi_rz]
  exact ⟨σ', rfl, r, k⟩
theorem r_shownL {s d n z : Nat} {A : fh_S} (hs : s < 4) (hd : d < n) (hz : z ≤ 40) (ez : A 54 s = nI z) : ∀ (k i T : Nat), i + k = z → ∀ fu : Nat, k + 1 < fu → ∀ σ : fh_S, RB σ A → RI (σ 45) n T →
    rE (fh_fx (ρ := Int32 → Int32 → fh_S → Option (Int32 × fh_S)) (fun _ _ _ => none) (f_X5_isShownSo_B16 44 (nI s) (nI d)) fu 1 (nI i) σ) σ A (bi_ (sa_ (A 55) (40 * s) d n k i (σ 45))) := by
  intro k
  induction k with
  | zero =>
    intro i T hi fu hfu σ hB hI
    obtain ⟨f, rfl⟩ : ∃ f, fu = f + 1 := ⟨fu - 1, by omega⟩
    rw [fx_s, e_X5_isShownSo_B16]
    simp only [gr_44_18, bd_s, ld_54 hs, jn_s]
    rw [hB.2.2.2.2.2.2.2.2.1, ez, if_pos (nI_le (by omega) (by omega))]
    exact r_shown78 (b := true) hB
  | succ k ih =>
    intro i T hi fu hfu σ hB hI
    obtain ⟨f, rfl⟩ : ∃ f, fu = f + 1 := ⟨fu - 1, by omega⟩
    obtain ⟨f, rfl⟩ : ∃ f', f = f' + 1 := ⟨f - 1, by omega⟩
    have hn := hI.1
    have h55 := hB.2.2.2.2.2.2.2.2.2
    obtain ⟨σ1, e1, g1, k1⟩ := r_tick hI
    have b1 : RB σ1 A := hB.ticked (k := 1) hI.1 g1 k1
    rw [fx_s, e_X5_isShownSo_B16]
    simp only [gr_44_18, gr_44_19, bd_s, ld_54 hs, jn_s]
    rw [hB.2.2.2.2.2.2.2.2.1, ez, if_neg (nI_ge (by omega) (by omega)), if_neg ne01, at_55, ld_55 (by omega), bd_s, h55, show (1 : Int32) = 1 from rfl, r_is1 (by omega), fh_cb_s]
    have go : ∀ x : Int32, f_X5_isShownSo_J67 44 (fh_fx (ρ := Int32 → Int32 → fh_S → Option (Int32 × fh_S)) (fun _ _ _ => none) (f_X5_isShownSo_B16 44 (nI s) (nI d)) (f + 1)) (nI i) x σ = fh_fx (ρ := Int32 → Int32 → fh_S → Option (Int32 × fh_S)) (fun _ _ _ => none) (f_X5_isShownSo_B16 44 (nI s) (nI d)) (f + 1) x (nI (i + 1)) σ1 := by
      intro x
      rw [e_X5_isShownSo_J67, e1, fh_cb_s, nI_1]
    have yes : rE (fh_fx (ρ := Int32 → Int32 → fh_S → Option (Int32 × fh_S)) (fun _ _ _ => none) (f_X5_isShownSo_B16 44 (nI s) (nI d)) (f + 1) 1 (nI (i + 1)) σ1) σ A (bi_ (sa_ (A 55) (40 * s) d n k (i + 1) (tk_ n (σ 45)))) := by
      have := ih (i + 1) (T + 1) (by omega) (f + 1) (by omega) σ1 b1 (by rw [g1]; exact hI.tick)
      rw [g1] at this
      exact this.bk (fun k hk => k1 k (by omega) (by omega))
    have no : rE (fh_fx (ρ := Int32 → Int32 → fh_S → Option (Int32 × fh_S)) (fun _ _ _ => none) (f_X5_isShownSo_B16 44 (nI s) (nI d)) (f + 1) 0 (nI (i + 1)) σ1) σ A (bi_ false) := by
      rw [fx_s, e_X5_isShownSo_B16]
      simp only [gr_44_18, bd_s, ld_54 hs, jn_s]
      rw [if_pos trivial, ite_self]
      exact (r_shown78 (b := false) b1).bk (fun k hk => k1 k (by omega) (by omega))
    unfold sa_
    by_cases q1 : A 55 (40 * s + i) = -1
    · rw [if_pos q1, if_pos (Or.inl q1), e_X5_isShownSo_J62, go]
      exact yes
    · rw [if_neg q1]
      by_cases q2 : A 55 (40 * s + i) = σ 45 (13 + 6 * d + 1)
      · rw [if_pos q2, if_pos (Or.inr q2), e_X5_isShownSo_J62, go]
        exact yes
      · rw [if_neg q2, if_neg (fun h => h.elim q1 q2), go]
        exact no
theorem r_shown {s d n z T : Nat} {σ A : fh_S} (hs : s < 4) (hd : d < n) (hz : z ≤ 40) (ez : A 54 s = nI z) (hR : RR σ A) (hI : RI (A 45) n T) : rE (f_X5_isShownSo 44 (nI s) (nI d) σ) σ A (bi_ (sa_ (A 55) (40 * s) d n z 0 (A 45))) := by
  obtain ⟨σ1, e1, b1, q1, k1⟩ := r_aside hR
  unfold f_X5_isShownSo
  simp only [ob_M, gr_44_0, gr_44_2, bd_s]
  rw [e1, fh_cb_s]
  have := r_shownL hs hd hz ez z 0 T (by omega) fh_fu (by unfold fh_fu; omega) σ1 b1 (by rw [q1, hR.1]; exact hI)
  rw [q1, hR.1] at this
  exact this.bk (fun k hk => k1 k (by omega))
/-- which of the first: one round -/
theorem ms_or {p : Nat → Bool} {i : Nat} (hi : i < 10) : (if bi_ (p i) = 0 then nI (ms_ p i) else nI (ms_ p i) ||| ((1 : Int32) <<< (nI i &&& 31))) = nI (ms_ p (i + 1)) := by
  unfold bi_
  by_cases h : p i = true
  · rw [if_pos h, if_neg ne01, b_or i hi _ (ms_lt (by omega))]
    conv => rhs; unfold ms_
    rw [if_pos h]
  · rw [if_neg h, if_pos rfl]
    conv => rhs; unfold ms_
    rw [if_neg h]
theorem ms_or0 {p : Nat → Bool} {i : Nat} (hi : i < 10) : nI (ms_ p i) ||| (if bi_ (p i) = 0 then 0 else ((1 : Int32) <<< (nI i &&& 31))) = nI (ms_ p (i + 1)) := by
  rw [← ms_or hi]
  by_cases h : bi_ (p i) = 0
  · rw [if_pos h, if_pos h, Int32.or_zero]
  · rw [if_neg h, if_neg h]
/-- the row of one that is tried -/
def fp_ (A : fh_S) (s d n z f : Nat) (i : Nat) : Bool := sa_ (A 55) (40 * s) d n z 0 (upd (A 45) (13 + 6 * d + f) (nI i))
theorem r_fitL {s d n z T f y : Nat} {A : fh_S} (hs : s < 4) (hd : d < n) (hz : z ≤ 40) (ez : A 54 s = nI z) (hf : f < 6) (hy : y ≤ 10) (hI : RI (A 45) n T) (ho : ∀ i, i < y → okf n f (nI i)) : ∀ (k i : Nat), i + k = y → ∀ fu : Nat, k < fu → ∀ (x : Int32) (σ : fh_S), RR σ (fh_row A 45 (upd (A 45) (13 + 6 * d + f) x)) →
    rE (fh_fx (ρ := Int32 → Int32 → fh_S → Option (Int32 × fh_S)) (fun _ _ _ => none) (f_X5_fitting_B14 (nI y) 44 (nI (13 + 6 * d + f)) (A 45 (13 + 6 * d + f)) (nI s) (nI d)) fu (nI (ms_ (fp_ A s d n z f) i)) (nI i) σ) σ A (nI (ms_ (fp_ A s d n z f) y)) := by
  have hn := hI.1
  intro k
  induction k with
  | zero =>
    intro i hi fu hfu x σ hR
    obtain ⟨g, rfl⟩ : ∃ f, fu = f + 1 := ⟨fu - 1, by omega⟩
    have : i = y := by omega
    subst this
    rw [fx_s, e_X5_fitting_B14, if_pos (nI_le (by omega) (by omega)), gr_44_0, bd_s, st_45 (by omega), bd_s]
    refine ⟨_, rfl, ?_, fun k hk => fs_o (by omega)⟩
    have := hR.st (13 + 6 * d + f) (A 45 (13 + 6 * d + f))
    rw [fh_row_s, row_row, upd_upd, upd_id rfl, row_id] at this
    exact this
  | succ k ih =>
    intro i hi fu hfu x σ hR
    obtain ⟨g, rfl⟩ : ∃ f, fu = f + 1 := ⟨fu - 1, by omega⟩
    rw [fx_s, e_X5_fitting_B14, if_neg (nI_ge (by omega) (by omega)), gr_44_0, bd_s, st_45 (by omega), bd_s]
    have hR1 := hR.st (13 + 6 * d + f) (nI i)
    rw [fh_row_s, row_row, upd_upd] at hR1
    obtain ⟨σ1, e1, r1, k1⟩ := r_shown hs hd hz (by rw [fh_row_n (by omega)]; exact ez) hR1 (by rw [fh_row_s]; exact hI.set hd hf (ho i (by omega)))
    rw [fh_row_s, fh_row_n (show 55 ≠ 45 by omega)] at e1
    have e1' : f_X5_isShownSo 44 (nI s) (nI d) (fs σ 45 (13 + 6 * d + f) (nI i)) = some (bi_ (fp_ A s d n z f i), σ1) := e1
    rw [e1', fh_cb_s, jn_s]
    have kk : ∀ k, k < 44 → σ1 k = σ k := fun k hk => by rw [k1 k hk, fs_o (by omega)]
    have := (ih (i + 1) (by omega) g (by omega) _ σ1 r1).bk kk
    rw [← ms_or0 (by omega)] at this
    by_cases h : bi_ (fp_ A s d n z f i) = 0
    · rw [if_pos h] at this ⊢
      rw [e_X5_fitting_J48, nI_1]
      exact this
    · rw [if_neg h] at this ⊢
      rw [e_X5_fitting_J48, nI_1]
      exact this
theorem r_fit {s d n z T f y : Nat} {σ A : fh_S} (hs : s < 4) (hd : d < n) (hz : z ≤ 40) (ez : A 54 s = nI z) (hf : f < 6) (hy : y ≤ 10) (hI : RI (A 45) n T) (ho : ∀ i, i < y → okf n f (nI i)) (hR : RR σ A) :
    rE (f_X5_fitting 44 (nI s) (nI d) (nI (13 + 6 * d + f)) (nI y) σ) σ A (nI (ms_ (fp_ A s d n z f) y)) := by
  have hn := hI.1
  unfold f_X5_fitting
  rw [ob_M, gr_44_0, bd_s, ld_45 (by omega), bd_s, hR.1]
  exact r_fitL hs hd hz ez hf hy hI ho y 0 (by omega) fh_fu (by unfold fh_fu; omega) (A 45 (13 + 6 * d + f)) σ (by rw [upd_id rfl, row_id]; exact hR)
