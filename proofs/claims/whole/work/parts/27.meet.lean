/-! ===== meet, halts ===== -/
theorem c_haltsL {n d : Nat} {A : fh_S} (hd : d < 10) : ∀ (m i T : Nat), i + m = 200 → T + m < 99990 → ∀ fu : Nat, m + 1 < fu → ∀ (σ : fh_S) (ρ : fh_Rw), CR σ A → GR 21 σ ρ → RI ρ n T →
    cE (fh_fx (ρ := Int32 → fh_S → Option (Int32 × fh_S)) (fun _ _ => none) (f_X4_halts_B31 0 (nI d)) fu (nI i) σ) σ (oA A (sr_ n (fun ρ => decide (ρ (13 + 6 * d + 3) = 0)) m i ρ)) (oV (sr_ n (fun ρ => decide (ρ (13 + 6 * d + 3) = 0)) m i ρ)) := by
  intro m
  induction m with
  | zero =>
    intro i T hi hT fu hfu σ ρ hC hG hI
    obtain ⟨f, rfl⟩ : ∃ f, fu = f + 2 := ⟨fu - 2, by omega⟩
    rw [fx_s, e_X4_halts_B31, if_neg (nI_200 (by omega))]
    simp only [gr_0_2, gr_G3 fhG21, bd_s, ld_G4 fhG21 hd, hG.f3 hd]
    unfold sr_
    by_cases q : ρ (13 + 6 * d + 3) = 0
    · simp only [q, decide_true, if_true]
      exact ⟨σ, rfl, hC, fun _ _ => rfl⟩
    · simp only [q, decide_false, if_false, Bool.false_eq_true]
      obtain ⟨σ1, e1, g1, k1⟩ := c_tick fhG21 hG hI (by omega)
      obtain rfl : i = 200 := by omega
      rw [e1, fh_cb_s, fx_s, e_X4_halts_B31, if_pos (by decide), cb_id]
      exact (c_tell3 (hC.mv (fun b _ hb _ => k1 b hb))).bk (fun k hk => k1 k (by omega))
  | succ m ih =>
    intro i T hi hT fu hfu σ ρ hC hG hI
    obtain ⟨f, rfl⟩ : ∃ f, fu = f + 1 := ⟨fu - 1, by omega⟩
    rw [fx_s, e_X4_halts_B31, if_neg (nI_200 (by omega))]
    simp only [gr_0_2, gr_G3 fhG21, bd_s, ld_G4 fhG21 hd, hG.f3 hd]
    unfold sr_
    by_cases q : ρ (13 + 6 * d + 3) = 0
    · simp only [q, decide_true, if_true]
      exact ⟨σ, rfl, hC, fun _ _ => rfl⟩
    · simp only [q, decide_false, if_false, Bool.false_eq_true]
      obtain ⟨σ1, e1, g1, k1⟩ := c_tick fhG21 hG hI (by omega)
      rw [e1, fh_cb_s, nI_1]
      exact (ih (i + 1) (T + 1) (by omega) (by omega) f (by omega) σ1 _ (hC.mv (fun b _ hb _ => k1 b hb)) g1 hI.tick).bk (fun k hk => k1 k (by omega))
theorem r_haltsL {n d : Nat} {A : fh_S} (hd : d < 10) : ∀ (m i T : Nat), i + m = 200 → ∀ fu : Nat, m < fu → ∀ (σ : fh_S), RB σ A → RI (σ 45) n T →
    rE (fh_fx (ρ := Int32 → fh_S → Option (Int32 × fh_S)) (fun _ _ => none) (f_X5_halts_B28 44 (nI d)) fu (nI i) σ) σ (oA A (sr_ n (fun ρ => decide (ρ (13 + 6 * d + 3) = 0)) m i (σ 45))) (oV (sr_ n (fun ρ => decide (ρ (13 + 6 * d + 3) = 0)) m i (σ 45))) := by
  intro m
  induction m with
  | zero =>
    intro i T hi fu hfu σ hB hI
    obtain ⟨f, rfl⟩ : ∃ f, fu = f + 1 := ⟨fu - 1, by omega⟩
    obtain rfl : i = 200 := by omega
    rw [fx_s, e_X5_halts_B28, jn_s, if_pos (by decide), e_X5_halts_J54, r_is3 hd, fh_cb_s, jn_s]
    unfold sr_
    by_cases q : σ 45 (13 + 6 * d + 3) = 0
    · simp only [q, decide_true, if_true, e_X5_halts_J70, cb_id]
      exact r_end hB (some 200) (fun k e => by cases e; omega)
    · simp only [q, decide_false, if_false, Bool.false_eq_true, e_X5_halts_J70, cb_id]
      exact r_end hB none (fun k e => by cases e)
  | succ m ih =>
    intro i T hi fu hfu σ hB hI
    obtain ⟨f, rfl⟩ : ∃ f, fu = f + 1 := ⟨fu - 1, by omega⟩
    rw [fx_s, e_X5_halts_B28, jn_s, show (200 : Int32) = nI 200 from rfl, if_neg (nI_ge (by omega) (by omega)), r_is3 hd, fh_cb_s]
    unfold sr_
    by_cases q : σ 45 (13 + 6 * d + 3) = 0
    · simp only [q, decide_true, if_true, e_X5_halts_J54, r_is3 hd, fh_cb_s, jn_s, e_X5_halts_J70, cb_id]
      exact r_end hB (some i) (fun k e => by cases e; omega)
    · simp only [q, decide_false, if_false, Bool.false_eq_true]
      obtain ⟨σ1, e1, g1, k1⟩ := r_tick hI
      rw [e1, fh_cb_s, nI_1, ← g1]
      exact (ih (i + 1) (T + 1) (by omega) f (by omega) σ1 (hB.ticked (k := 1) hI.1 g1 k1) (by rw [g1]; exact hI.tick)).bk (fun k hk => k1 k (by omega) (by omega))
theorem c_meetL {n d d2 : Nat} {A : fh_S} (hd : d < 10) (hd2 : d2 < 10) : ∀ (m i T : Nat), i + m = 200 → T + m < 99990 → ∀ fu : Nat, m + 1 < fu → ∀ (σ : fh_S) (ρ : fh_Rw), CR σ A → GR 21 σ ρ → RI ρ n T →
    cE (fh_fx (ρ := Int32 → fh_S → Option (Int32 × fh_S)) (fun _ _ => none) (f_X4_meet_B47 0 (nI d) (nI d2)) fu (nI i) σ) σ (oA A (sr_ n (fun ρ => decide (ρ (13 + 6 * d + 1) = ρ (13 + 6 * d2 + 1))) m i ρ)) (oV (sr_ n (fun ρ => decide (ρ (13 + 6 * d + 1) = ρ (13 + 6 * d2 + 1))) m i ρ)) := by
  intro m
  induction m with
  | zero =>
    intro i T hi hT fu hfu σ ρ hC hG hI
    obtain ⟨f, rfl⟩ : ∃ f, fu = f + 2 := ⟨fu - 2, by omega⟩
    rw [fx_s, e_X4_meet_B47, if_neg (nI_200 (by omega))]
    simp only [gr_0_2, gr_G1 fhG21, bd_s, ld_G2 fhG21 hd, ld_G2 fhG21 hd2, hG.f1 hd, hG.f1 hd2]
    unfold sr_
    by_cases q : ρ (13 + 6 * d + 1) = ρ (13 + 6 * d2 + 1)
    · simp only [q, decide_true, if_true]
      exact ⟨σ, rfl, hC, fun _ _ => rfl⟩
    · simp only [q, decide_false, if_false, Bool.false_eq_true]
      obtain ⟨σ1, e1, g1, k1⟩ := c_tick fhG21 hG hI (by omega)
      obtain rfl : i = 200 := by omega
      rw [e1, fh_cb_s, fx_s, e_X4_meet_B47, if_pos (by decide), cb_id]
      exact (c_tell3 (hC.mv (fun b _ hb _ => k1 b hb))).bk (fun k hk => k1 k (by omega))
  | succ m ih =>
    intro i T hi hT fu hfu σ ρ hC hG hI
    obtain ⟨f, rfl⟩ : ∃ f, fu = f + 1 := ⟨fu - 1, by omega⟩
    rw [fx_s, e_X4_meet_B47, if_neg (nI_200 (by omega))]
    simp only [gr_0_2, gr_G1 fhG21, bd_s, ld_G2 fhG21 hd, ld_G2 fhG21 hd2, hG.f1 hd, hG.f1 hd2]
    unfold sr_
    by_cases q : ρ (13 + 6 * d + 1) = ρ (13 + 6 * d2 + 1)
    · simp only [q, decide_true, if_true]
      exact ⟨σ, rfl, hC, fun _ _ => rfl⟩
    · simp only [q, decide_false, if_false, Bool.false_eq_true]
      obtain ⟨σ1, e1, g1, k1⟩ := c_tick fhG21 hG hI (by omega)
      rw [e1, fh_cb_s, nI_1]
      exact (ih (i + 1) (T + 1) (by omega) (by omega) f (by omega) σ1 _ (hC.mv (fun b _ hb _ => k1 b hb)) g1 hI.tick).bk (fun k hk => k1 k (by omega))
theorem r_meetL {n d d2 : Nat} {A : fh_S} (hd : d < 10) (hd2 : d2 < 10) : ∀ (m i T : Nat), i + m = 200 → ∀ fu : Nat, m < fu → ∀ (σ : fh_S), RB σ A → RI (σ 45) n T →
    rE (fh_fx (ρ := Int32 → fh_S → Option (Int32 × fh_S)) (fun _ _ => none) (f_X5_meet_B41 44 (nI d) (nI d2)) fu (nI i) σ) σ (oA A (sr_ n (fun ρ => decide (ρ (13 + 6 * d + 1) = ρ (13 + 6 * d2 + 1))) m i (σ 45))) (oV (sr_ n (fun ρ => decide (ρ (13 + 6 * d + 1) = ρ (13 + 6 * d2 + 1))) m i (σ 45))) := by
  intro m
  induction m with
  | zero =>
    intro i T hi fu hfu σ hB hI
    obtain ⟨f, rfl⟩ : ∃ f, fu = f + 1 := ⟨fu - 1, by omega⟩
    obtain rfl : i = 200 := by omega
    rw [fx_s, e_X5_meet_B41, jn_s, if_pos (by decide), e_X5_meet_J73, r_is1 hd, fh_cb_s, r_is1 hd2, fh_cb_s, jn_s]
    unfold sr_
    by_cases q : σ 45 (13 + 6 * d + 1) = σ 45 (13 + 6 * d2 + 1)
    · simp only [q, decide_true, if_true, e_X5_meet_J95, cb_id]
      exact r_end hB (some 200) (fun k e => by cases e; omega)
    · simp only [q, decide_false, if_false, Bool.false_eq_true, e_X5_meet_J95, cb_id]
      exact r_end hB none (fun k e => by cases e)
  | succ m ih =>
    intro i T hi fu hfu σ hB hI
    obtain ⟨f, rfl⟩ : ∃ f, fu = f + 1 := ⟨fu - 1, by omega⟩
    rw [fx_s, e_X5_meet_B41, jn_s, show (200 : Int32) = nI 200 from rfl, if_neg (nI_ge (by omega) (by omega)), r_is1 hd, fh_cb_s, r_is1 hd2, fh_cb_s]
    unfold sr_
    by_cases q : σ 45 (13 + 6 * d + 1) = σ 45 (13 + 6 * d2 + 1)
    · simp only [q, decide_true, if_true, e_X5_meet_J73, r_is1 hd, r_is1 hd2, fh_cb_s, jn_s, e_X5_meet_J95, cb_id]
      exact r_end hB (some i) (fun k e => by cases e; omega)
    · simp only [q, decide_false, if_false, Bool.false_eq_true]
      obtain ⟨σ1, e1, g1, k1⟩ := r_tick hI
      rw [e1, fh_cb_s, nI_1, ← g1]
      exact (ih (i + 1) (T + 1) (by omega) f (by omega) σ1 (hB.ticked (k := 1) hI.1 g1 k1) (by rw [g1]; exact hI.tick)).bk (fun k hk => k1 k (by omega) (by omega))
theorem s_halts (a : Int32) : fh_Stp (f_X4_halts 0 a) (f_X5_halts 44 a) := by
  apply fh_Stp.mk
  intro N A σ τ hN hA hC hR
  obtain ⟨n, hI⟩ := hA.1
  have hn := hI.1
  have hIt : RI (τ 45) n (100 * N) := by rw [hR.1]; exact hI
  have hsz : σ 1 9 = nI n := by rw [hC.1.1]; exact hI.2.1
  unfold f_X4_halts f_X5_halts
  simp only [ob_H, ob_M, gr_0_0, gr_0_2, gr_44_0, gr_44_2, bd_s, r_isDial (show n ≤ 1000 by omega) hIt.2.1, c_has fhG1 hsz, fh_cb_s, cb_id]
  rcases db_or a (show n ≤ 1000 by omega) with h | ⟨h, d, hd, rfl⟩
  · rw [h]
    simp only [if_true]
    exact ⟨_, _, hA.tell (by omega), c_tell0 hC, r_find0 hR⟩
  · rw [h]
    simp only [ne01, if_false]
    obtain ⟨σ1, e1, g1, c1, k1⟩ := c_try hC
    obtain ⟨τ1, e2, b2, q2, k2⟩ := r_aside hR
    rw [e1, fh_cb_s, e2, fh_cb_s]
    have hc := c_haltsL (n := n) (A := A) (show d < 10 by omega) 200 0 (100 * N) (by omega) (by omega) fh_fu (by unfold fh_fu; omega) σ1 _ c1 g1 hI
    have hr := r_haltsL (n := n) (A := A) (show d < 10 by omega) 200 0 (100 * N) (by omega) fh_fu (by unfold fh_fu; omega) τ1 b2 (by rw [q2]; exact hIt)
    rw [q2, hR.1] at hr
    exact ⟨_, _, hA.o _, hc.bk (fun k hk => k1 k (by omega)), hr.bk (fun k hk => k2 k (by omega))⟩
theorem s_meet (a b : Int32) : fh_Stp (f_X4_meet 0 a b) (f_X5_meet 44 a b) := by
  apply fh_Stp.mk
  intro N A σ τ hN hA hC hR
  obtain ⟨n, hI⟩ := hA.1
  have hn := hI.1
  have hIt : RI (τ 45) n (100 * N) := by rw [hR.1]; exact hI
  have hsz : σ 1 9 = nI n := by rw [hC.1.1]; exact hI.2.1
  unfold f_X4_meet f_X5_meet
  simp only [ob_H, ob_M, gr_0_0, gr_0_2, gr_44_0, gr_44_2, bd_s, r_isDial (show n ≤ 1000 by omega) hIt.2.1, c_has fhG1 hsz, fh_cb_s, cb_id, jn_s, e_X5_meet_J21, e_X4_meet_J27]
  rcases db_or a (show n ≤ 1000 by omega) with h | ⟨h, d, hd, rfl⟩
  · rw [h]
    simp only [if_true]
    exact ⟨_, _, hA.tell (by omega), c_tell0 hC, r_find0 hR⟩
  · rw [h]
    simp only [ne01, if_false]
    rcases db_or b (show n ≤ 1000 by omega) with h' | ⟨h', d2, hd2, rfl⟩
    · rw [h']
      simp only [if_true]
      exact ⟨_, _, hA.tell (by omega), c_tell0 hC, r_find0 hR⟩
    · rw [h']
      simp only [ne01, if_false]
      by_cases hq : nI d = nI d2
      · simp only [hq, if_true]
        exact ⟨_, _, hA.tell (by omega), c_tell0 hC, r_find0 hR⟩
      · simp only [hq, if_false]
        obtain ⟨σ1, e1, g1, c1, k1⟩ := c_try hC
        obtain ⟨τ1, e2, b2, q2, k2⟩ := r_aside hR
        rw [e1, fh_cb_s, e2, fh_cb_s]
        have hc := c_meetL (n := n) (A := A) (show d < 10 by omega) (show d2 < 10 by omega) 200 0 (100 * N) (by omega) (by omega) fh_fu (by unfold fh_fu; omega) σ1 _ c1 g1 hI
        have hr := r_meetL (n := n) (A := A) (show d < 10 by omega) (show d2 < 10 by omega) 200 0 (100 * N) (by omega) fh_fu (by unfold fh_fu; omega) τ1 b2 (by rw [q2]; exact hIt)
        rw [q2, hR.1] at hr
        exact ⟨_, _, hA.o _, hc.bk (fun k hk => k1 k (by omega)), hr.bk (fun k hk => k2 k (by omega))⟩
