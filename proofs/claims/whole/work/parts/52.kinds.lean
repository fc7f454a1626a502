/-! ===== masters, kinds: the calls ===== -/
theorem ms_z {p : Nat → Bool} : ms_ p 0 = 0 := rfl
theorem s_masters (a b : Int32) : fh_Stp (f_X4_masters 0 a b) (f_X5_masters 44 a b) := by
  apply fh_Stp.mk
  intro N A σ τ hN hA hC hR
  obtain ⟨n, hI⟩ := hA.1
  have hn := hI.1
  have hIt : RI (τ 45) n (100 * N) := by rw [hR.1]; exact hI
  have hsz : σ 1 9 = nI n := by rw [hC.1.1]; exact hI.2.1
  unfold f_X4_masters f_X5_masters
  rw [ob_H, ob_M]
  rcases wb_or a 0 3 with q | ⟨q, -⟩
  · rw [c_fosB q, fh_cb_s, r_lackB q, fh_cb_s, jn_s, jn_s, if_neg (show ¬ (-1000001 : Int32) = 0 by decide), if_neg (show ¬ (-1000001 : Int32) = 0 by decide), e_X4_masters_J24, if_neg (show ¬ (-1000001 : Int32) = 0 by decide), e_X5_masters_J16, r_lackB q, fh_cb_s, jn_s, if_neg (show ¬ (-1000001 : Int32) = 0 by decide), r_lackB q, fh_cb_s, e_X5_masters_J35, cb_id, cb_id]
    exact ⟨_, _, hA.tell (by omega), c_tell0 hC, r_find0 hR⟩
  · obtain ⟨s, hs, rfl⟩ := wb_nI (a := a) (h := 3) (by omega) q
    have hs : s < 4 := by omega
    obtain ⟨-, z, hz, ez⟩ := hA.2.2.2.2.1 s hs
    rw [c_fos hs q hC, fh_cb_s, r_lack hs q hR, fh_cb_s, jn_s, jn_s]
    by_cases w : A 53 s = 0
    · rw [if_pos w, if_neg (show ¬ (-1000006 : Int32) = 0 by decide), if_neg (show ¬ (-1000006 : Int32) = 0 by decide), e_X4_masters_J24, if_neg (show ¬ (-1000006 : Int32) = 0 by decide), e_X5_masters_J16, r_lack hs q hR, fh_cb_s, if_pos w, jn_s, if_neg (show ¬ (-1000006 : Int32) = 0 by decide), r_lack hs q hR, fh_cb_s, if_pos w, e_X5_masters_J35, cb_id, cb_id]
      exact ⟨_, _, hA.tell (by omega), c_tell5 hC, r_find5 hR⟩
    · rw [if_neg w, if_pos (show (0 : Int32) = 0 from rfl), if_pos (show (0 : Int32) = 0 from rfl), gr_0_0, bd_s, c_has fhG1 hsz, fh_cb_s, r_isDial (show n ≤ 1000 by omega) hIt.2.1, fh_cb_s]
      rcases db_or b (show n ≤ 1000 by omega) with h | ⟨h, d, hd, rfl⟩
      · rw [h, if_pos (show (0 : Int32) = 0 from rfl), if_pos (show (0 : Int32) = 0 from rfl), e_X4_masters_J24, if_neg (show ¬ (-1000001 : Int32) = 0 by decide), e_X5_masters_J16, r_lack hs q hR, fh_cb_s, if_neg w, jn_s, if_pos (show (0 : Int32) = 0 from rfl), e_X5_masters_J35, cb_id, cb_id]
        exact ⟨_, _, hA.tell (by omega), c_tell0 hC, r_find0 hR⟩
      · rw [h]
        rw [if_neg ne01, if_neg ne01, e_X4_masters_J24, if_pos (show (0 : Int32) = 0 from rfl)]
        unfold f_X5_at
        rw [fh_cb_s, gr_44_0, bd_s, ld_45_1, bd_s, at_2, hIt.2.1]
        obtain ⟨σ1, e1, c1, k1⟩ := c_mastersL hs hd hz ez (show 100 * N < 99000 by omega) hI n 0 (Nat.zero_add _) fh_fu (by unfold fh_fu; omega) σ hC
        have hr := r_fit (f := 2) (y := n) hs hd hz ez (by omega) (by omega) hI (fun i hi => okM hi) hR
        rw [ms_z, nI_0] at e1
        rw [cb_id, e1]
        exact ⟨_, A, hA.mono (by omega), ⟨σ1, rfl, c1, fun k hk => k1 k (by omega)⟩, hr⟩
theorem s_kinds (a b : Int32) : fh_Stp (f_X4_kinds 0 a b) (f_X5_kinds 44 a b) := by
  apply fh_Stp.mk
  intro N A σ τ hN hA hC hR
  obtain ⟨n, hI⟩ := hA.1
  have hn := hI.1
  have hIt : RI (τ 45) n (100 * N) := by rw [hR.1]; exact hI
  have hsz : σ 1 9 = nI n := by rw [hC.1.1]; exact hI.2.1
  unfold f_X4_kinds f_X5_kinds
  rw [ob_H, ob_M]
  rcases wb_or a 0 3 with q | ⟨q, -⟩
  · rw [c_fosB q, fh_cb_s, r_lackB q, fh_cb_s, jn_s, jn_s, if_neg (show ¬ (-1000001 : Int32) = 0 by decide), if_neg (show ¬ (-1000001 : Int32) = 0 by decide), e_X4_kinds_J24, if_neg (show ¬ (-1000001 : Int32) = 0 by decide), e_X5_kinds_J16, r_lackB q, fh_cb_s, jn_s, if_neg (show ¬ (-1000001 : Int32) = 0 by decide), r_lackB q, fh_cb_s, e_X5_kinds_J35, cb_id, cb_id]
    exact ⟨_, _, hA.tell (by omega), c_tell0 hC, r_find0 hR⟩
  · obtain ⟨s, hs, rfl⟩ := wb_nI (a := a) (h := 3) (by omega) q
    have hs : s < 4 := by omega
    obtain ⟨-, z, hz, ez⟩ := hA.2.2.2.2.1 s hs
    rw [c_fos hs q hC, fh_cb_s, r_lack hs q hR, fh_cb_s, jn_s, jn_s]
    by_cases w : A 53 s = 0
    · rw [if_pos w, if_neg (show ¬ (-1000006 : Int32) = 0 by decide), if_neg (show ¬ (-1000006 : Int32) = 0 by decide), e_X4_kinds_J24, if_neg (show ¬ (-1000006 : Int32) = 0 by decide), e_X5_kinds_J16, r_lack hs q hR, fh_cb_s, if_pos w, jn_s, if_neg (show ¬ (-1000006 : Int32) = 0 by decide), r_lack hs q hR, fh_cb_s, if_pos w, e_X5_kinds_J35, cb_id, cb_id]
      exact ⟨_, _, hA.tell (by omega), c_tell5 hC, r_find5 hR⟩
    · rw [if_neg w, if_pos (show (0 : Int32) = 0 from rfl), if_pos (show (0 : Int32) = 0 from rfl), gr_0_0, bd_s, c_has fhG1 hsz, fh_cb_s, r_isDial (show n ≤ 1000 by omega) hIt.2.1, fh_cb_s]
      rcases db_or b (show n ≤ 1000 by omega) with h | ⟨h, d, hd, rfl⟩
      · rw [h, if_pos (show (0 : Int32) = 0 from rfl), if_pos (show (0 : Int32) = 0 from rfl), e_X4_kinds_J24, if_neg (show ¬ (-1000001 : Int32) = 0 by decide), e_X5_kinds_J16, r_lack hs q hR, fh_cb_s, if_neg w, jn_s, if_pos (show (0 : Int32) = 0 from rfl), e_X5_kinds_J35, cb_id, cb_id]
        exact ⟨_, _, hA.tell (by omega), c_tell0 hC, r_find0 hR⟩
      · rw [h]
        rw [if_neg ne01, if_neg ne01, e_X4_kinds_J24, if_pos (show (0 : Int32) = 0 from rfl)]
        unfold f_X5_at
        rw [fh_cb_s, at_0]
        obtain ⟨σ1, e1, c1, k1⟩ := c_kindsL hs hd hz ez (show 100 * N < 99000 by omega) hI 7 0 (Nat.zero_add _) fh_fu (by unfold fh_fu; omega) σ hC
        have hr := r_fit (f := 0) (y := 7) hs hd hz ez (by omega) (by omega) hI (fun i hi => okK hi) hR
        rw [ms_z, nI_0] at e1
        rw [cb_id, show (7 : Int32) = nI 7 from rfl, e1]
        exact ⟨_, A, hA.mono (by omega), ⟨σ1, rfl, c1, fun k hk => k1 k (by omega)⟩, hr⟩
