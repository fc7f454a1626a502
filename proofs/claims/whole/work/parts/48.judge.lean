/-! ===== judge ===== -/
def jg_ (m ρ : fh_Rw) (s n : Nat) : Nat → Nat → Int32 → Int32
  | 0, _, _ => 0
  | k + 1, i, w => if (if i = 0 then db (m (40 * s + i)) n else if m (40 * s + i) = w then 1 else 0) = 0 then 1 + nI i else jg_ m ρ s n k (i + 1) (ρ (13 + 6 * (m (40 * s + i)).toNatClampNeg + 2))
theorem nI_z {i : Nat} (h : i < 1000) : nI i = 0 ↔ i = 0 := by
  rw [show (0 : Int32) = nI 0 from rfl, nI_eq (by omega) (by omega)]
theorem c_judgeL {s n T z : Nat} {σ A : fh_S} (hs : s < 4) (hI : RI (A 45) n T) (hz : z ≤ 40) (ez : A 54 s = nI z) (hC : CR σ A) : ∀ (k i : Nat), i + k = z → ∀ fu : Nat, k < fu → ∀ w : Int32, (i = 0 ∨ ∃ q, q < n ∧ w = nI q) →
    fh_fx (ρ := Int32 → Int32 → fh_S → Option (Int32 × fh_S)) (fun _ _ _ => none) (f_X4_judge_B21 0 (nI s)) fu w (nI i) σ = some (jg_ (A 55) (A 45) s n k i w, σ) := by
  have hn := hI.1
  have hsz : σ 1 9 = nI n := by rw [hC.1.1]; exact hI.2.1
  intro k
  induction k with
  | zero =>
    intro i hi fu hfu w hw
    obtain ⟨f, rfl⟩ : ∃ f, fu = f + 1 := ⟨fu - 1, by omega⟩
    rw [fx_s, e_X4_judge_B21]
    simp only [gr_0_5, bd_s, lr_s hs, gi_S2 hs]
    rw [(hC.sh hs).2.1, ez, if_pos (nI_le (by omega) (by omega))]
    rfl
  | succ k ih =>
    intro i hi fu hfu w hw
    obtain ⟨f, rfl⟩ : ∃ f, fu = f + 1 := ⟨fu - 1, by omega⟩
    rw [fx_s, e_X4_judge_B21]
    simp only [gr_0_5, bd_s, lr_s hs, gi_S2 hs, gr_S0 hs, jn_s]
    rw [(hC.sh hs).2.1, ez, if_neg (nI_ge (by omega) (by omega)), ld_S hs (by omega), bd_s, (hC.sh hs).2.2 i (by omega)]
    unfold jg_
    have go : ∀ (v x : Int32), (x = 0 ∨ (x = 1 ∧ ∃ p, p < n ∧ v = nI p)) → f_X4_judge_J77 (nI i) 0 v (fh_fx (ρ := Int32 → Int32 → fh_S → Option (Int32 × fh_S)) (fun _ _ _ => none) (f_X4_judge_B21 0 (nI s)) f) x σ = some (if x = 0 then 1 + nI i else jg_ (A 55) (A 45) s n k (i + 1) (A 45 (13 + 6 * v.toNatClampNeg + 2)), σ) := by
      intro v x hx
      rw [e_X4_judge_J77]
      rcases hx with rfl | ⟨rfl, p, hp, rfl⟩
      · rw [if_pos rfl, if_pos rfl]
      · obtain ⟨m, hm, em⟩ := hI.mast hp
        rw [if_neg ne01, if_neg ne01, gr_0_0, bd_s, gr_G2 fhG1, bd_s, ld_G3 fhG1 (by omega), bd_s, nI_1, nI_clamp (by omega), hC.1.f2 (by omega)]
        exact ih (i + 1) (by omega) f (by omega) _ (Or.inr ⟨m, hm, em⟩)
    by_cases q : i = 0
    · rw [if_pos ((nI_z (by omega)).mpr q), if_pos q, gr_0_0, bd_s, c_has fhG1 hsz, fh_cb_s]
      exact go _ _ (db_or _ (by omega))
    · rw [if_neg (fun h => q ((nI_z (by omega)).mp h)), if_neg q]
      obtain ⟨p, hp, ep⟩ := hw.resolve_left q
      by_cases e : A 55 (40 * s + i) = w
      · rw [if_pos e, if_pos e]
        exact go _ _ (Or.inr ⟨rfl, p, hp, e.trans ep⟩)
      · rw [if_neg e, if_neg e]
        exact go _ _ (Or.inl rfl)
theorem r_judgeL {s n T z : Nat} {σ A : fh_S} (hs : s < 4) (hI : RI (A 45) n T) (hz : z ≤ 40) (ez : A 54 s = nI z) (hR : RR σ A) : ∀ (k i : Nat), i + k = z → ∀ fu : Nat, k + 1 < fu → ∀ w : Int32, (i = 0 ∨ ∃ p, p < n ∧ A 55 (40 * s + i - 1) = nI p ∧ w = A 45 (13 + 6 * p + 2)) →
    fh_fx (ρ := Int32 → Int32 → fh_S → Option (Int32 × fh_S)) (fun _ _ _ => none) (f_X5_judge_B22 44 (nI s)) fu (nI i) 1 σ = some (jg_ (A 55) (A 45) s n k i w, σ) := by
  have hn := hI.1
  have hd : σ 45 1 = nI n := by rw [hR.1]; exact hI.2.1
  intro k
  induction k with
  | zero =>
    intro i hi fu hfu w hw
    obtain ⟨f, rfl⟩ : ∃ f, fu = f + 1 := ⟨fu - 1, by omega⟩
    rw [fx_s, e_X5_judge_B22]
    simp only [gr_44_18, bd_s, ld_54 hs, jn_s]
    rw [hR.2.2.2.2.2.2.2.1, ez, if_pos (nI_le (by omega) (by omega)), e_X5_judge_J106, if_neg ne01]
    rfl
  | succ k ih =>
    intro i hi fu hfu w hw
    obtain ⟨f, rfl⟩ : ∃ f, fu = f + 1 := ⟨fu - 1, by omega⟩
    obtain ⟨f, rfl⟩ : ∃ f', f = f' + 1 := ⟨f - 1, by omega⟩
    rw [fx_s, e_X5_judge_B22]
    simp only [gr_44_18, gr_44_19, bd_s, ld_54 hs, jn_s]
    rw [hR.2.2.2.2.2.2.2.1, ez, if_neg (nI_ge (by omega) (by omega)), if_neg ne01, at_55, ld_55 (by omega), bd_s, hR.2.2.2.2.2.2.2.2, r_isDial (show n ≤ 1000 by omega) hd, fh_cb_s]
    unfold jg_
    have no : f_X5_judge_J89 (f_X5_judge_J90 (fh_fx (ρ := Int32 → Int32 → fh_S → Option (Int32 × fh_S)) (fun _ _ _ => none) (f_X5_judge_B22 44 (nI s)) (f + 1)) (nI i)) σ = some (1 + nI i, σ) := by
      rw [e_X5_judge_J89, e_X5_judge_J90, jn_s, if_pos rfl, e_X5_judge_J101, Int32.add_zero, fx_s, e_X5_judge_B22]
      simp only [gr_44_18, bd_s, ld_54 hs, jn_s]
      rw [hR.2.2.2.2.2.2.2.1, ez, if_neg (nI_ge (by omega) (by omega)), if_pos trivial, e_X5_judge_J106, if_pos rfl]
    have yes : ∀ p, p < n → A 55 (40 * s + i) = nI p → f_X5_judge_J85 (f_X5_judge_J90 (fh_fx (ρ := Int32 → Int32 → fh_S → Option (Int32 × fh_S)) (fun _ _ _ => none) (f_X5_judge_B22 44 (nI s)) (f + 1)) (nI i)) σ = some (jg_ (A 55) (A 45) s n k (i + 1) (A 45 (13 + 6 * (A 55 (40 * s + i)).toNatClampNeg + 2)), σ) := by
      intro p hp ep
      rw [e_X5_judge_J85, e_X5_judge_J90, jn_s, if_neg ne01, e_X5_judge_J101, nI_1]
      exact ih (i + 1) (by omega) (f + 1) (by omega) _ (Or.inr ⟨p, hp, ep, by rw [ep, nI_clamp (by omega)]⟩)
    by_cases q : i = 0
    · rw [if_pos q]
      rcases db_or (A 55 (40 * s + i)) (show n ≤ 1000 by omega) with h | ⟨h, p, hp, ep⟩
      · rw [h, if_pos rfl, if_pos rfl]
        exact no
      · rw [h, if_neg ne01, if_neg ne01, if_pos ((nI_z (by omega)).mpr q)]
        exact yes p hp ep
    · rw [if_neg q]
      obtain ⟨p, hp, ep, ew⟩ := hw.resolve_left q
      obtain ⟨m, hm, em⟩ := hI.mast hp
      rcases db_or (A 55 (40 * s + i)) (show n ≤ 1000 by omega) with h | ⟨h, p', hp', ep'⟩
      · have : ¬ A 55 (40 * s + i) = w := by
          intro z
          rw [z, ew, em, db_in hm hn] at h
          exact ne01 h
        rw [h, if_pos rfl, if_neg this, if_pos rfl]
        exact no
      · rw [h, if_neg ne01, if_neg (fun h => q ((nI_z (by omega)).mp h)), show (1 : Int32) = nI 1 from rfl, pk_sub (by omega), ld_55 (by omega), bd_s, hR.2.2.2.2.2.2.2.2, ep, show (2 : Int32) = nI 2 from rfl]
        rw [show nI 2 = (2 : Int32) from rfl, r_is2 (by omega), fh_cb_s, hR.1, ← ew]
        by_cases e : A 55 (40 * s + i) = w
        · rw [if_pos e.symm, if_pos e, if_neg (show ¬ nI 1 = 0 from ne01)]
          exact yes p' hp' ep'
        · rw [if_neg (fun h => e h.symm), if_neg e, if_pos rfl]
          exact no
theorem s_judge (a : Int32) : fh_Stp (f_X4_judge 0 a) (f_X5_judge 44 a) := by
  apply fh_Stp.mk
  intro N A σ τ hN hA hC hR
  obtain ⟨n, hI⟩ := hA.1
  unfold f_X4_judge f_X5_judge
  rw [ob_H, ob_M]
  rcases wb_or a 0 3 with q | ⟨q, -⟩
  · rw [c_fosB q, fh_cb_s, r_lackB q, fh_cb_s, if_neg (show ¬ (-1000001 : Int32) = 0 by decide), if_neg (show ¬ (-1000001 : Int32) = 0 by decide), r_lackB q, fh_cb_s, cb_id, cb_id]
    exact ⟨_, _, hA.tell (by omega), c_tell0 hC, r_find0 hR⟩
  · obtain ⟨s, hs, rfl⟩ := wb_nI (a := a) (h := 3) (by omega) q
    have hs : s < 4 := by omega
    obtain ⟨-, z, hz, ez⟩ := hA.2.2.2.2.1 s hs
    rw [c_fos hs q hC, fh_cb_s, r_lack hs q hR, fh_cb_s]
    by_cases w : A 53 s = 0
    · rw [if_pos w, if_neg (show ¬ (-1000006 : Int32) = 0 by decide), if_neg (show ¬ (-1000006 : Int32) = 0 by decide), r_lack hs q hR, fh_cb_s, if_pos w, cb_id, cb_id]
      exact ⟨_, _, hA.tell (by omega), c_tell5 hC, r_find5 hR⟩
    · rw [if_neg w, if_pos (show (0 : Int32) = 0 from rfl), if_pos (show (0 : Int32) = 0 from rfl)]
      have e1 := c_judgeL hs hI hz ez hC z 0 (Nat.zero_add _) fh_fu (by unfold fh_fu; omega) (-1) (Or.inl rfl)
      have e2 := r_judgeL hs hI hz ez hR z 0 (Nat.zero_add _) fh_fu (by unfold fh_fu; omega) (-1) (Or.inl rfl)
      exact ⟨_, A, hA.mono (by omega), ⟨σ, e1, hC, fun _ _ => rfl⟩, ⟨τ, e2, hR, fun _ _ => rfl⟩⟩
