/-! ===== sheet: the call ===== -/
theorem c_layOut {s z : Nat} {w : Int32} {σ A : fh_S} (hs : s < 4) (hC : CR σ A) : cE (f_X2_layOut (35 + 2 * s) w (nI z) σ) σ (zA s 40 0 (fs (fs A 53 s w) 54 s (nI (if w = 0 then 0 else z)))) () := by
  unfold f_X2_layOut
  rw [ob_S hs, pf_S1 hs, bd_s]
  simp only [jn_s]
  have fin : ∀ x : Int32, cE (f_X2_layOut_J15 (35 + 2 * s) x (fs σ (35 + 2 * s) 1 w)) σ (zA s 40 0 (fs (fs A 53 s w) 54 s x)) () := by
    intro x
    rw [e_X2_layOut_J15, pf_S2 hs, bd_s]
    refine (c_layL hs 40 0 (by omega) fh_fu (by unfold fh_fu; omega) _ _ ((hC.wid hs (Or.inl ⟨rfl, rfl⟩)).wid hs (Or.inr ⟨rfl, rfl⟩))).bk (fun k hk => ?_)
    rw [fs_o (by omega), fs_o (by omega)]
  by_cases q : w = 0
  · rw [if_pos q, if_pos q]
    exact fin 0
  · rw [if_neg q, if_neg q]
    exact fin (nI z)
theorem r_layOut {s z : Nat} {w : Int32} {σ A : fh_S} (hs : s < 4) (hz : z ≤ 40) (hR : RR σ A) : rE (f_X5_sheet_J36 (nI z) 44 (nI s) w σ) σ (zA s 40 0 (fs (fs A 53 s w) 54 s (nI (if w = 0 then 0 else z)))) (nI (if w = 0 then 0 else z)) := by
  rw [e_X5_sheet_J36, if_pos (show (0 : Int32) ≤ nI z from nI_le (a := 0) (by omega) (by omega)), if_pos (show nI z ≤ (40 : Int32) from nI_le (b := 40) (by omega) (by omega)), gr_44_17, bd_s, st_53 hs, bd_s, gr_44_18, bd_s]
  simp only [jn_s]
  have fin : ∀ x : Int32, rE (f_X5_sheet_J82 54 (nI s) 44 x (fs σ 53 s w)) σ (zA s 40 0 (fs (fs A 53 s w) 54 s x)) x := by
    intro x
    rw [e_X5_sheet_J82, st_54 hs, bd_s]
    have := r_layL hs 40 0 (by omega) fh_fu (by unfold fh_fu; omega) _ _ ((hR.wid (l := s) (v := w) (Or.inl rfl)).wid (l := s) (v := x) (Or.inr rfl))
    rw [fs_s] at this
    refine this.bk (fun k hk => ?_)
    rw [fs_o (by omega), fs_o (by omega)]
  by_cases q : w = 0
  · rw [if_pos q, if_pos q]
    exact fin 0
  · rw [if_neg q, if_neg q]
    exact fin (nI z)
theorem s_sheet (a w c : Int32) : fh_Stp (f_X4_sheet 0 a w c) (f_X5_sheet 44 a w c) := by
  apply fh_Stp.mk
  intro N A σ τ hN hA hC hR
  have bad : ∃ v' A', AI A' (N + 1) ∧ cE (f_X4_sheet_J41 0 σ) σ A' v' ∧ rE (f_X5_sheet_J29 44 τ) τ A' v' := by
    rw [e_X4_sheet_J41, e_X5_sheet_J29, cb_id, cb_id]
    exact ⟨_, _, hA.tell (by omega), c_tell0 hC, r_find0 hR⟩
  have good : (w = 0 ∨ w = 8 ∨ w = 16 ∨ w = 32) → ∃ v' A', AI A' (N + 1) ∧ cE (f_X4_sheet_J27 a 0 c w 1 σ) σ A' v' ∧ rE (if wb a 0 3 = 0 then f_X5_sheet_J29 44 τ else f_X5_sheet_J36 c 44 a w τ) τ A' v' := by
    intro hw
    rw [e_X4_sheet_J27, c_isSheet, fh_cb_s]
    simp only [jn_s]
    rcases wb_or a 0 3 with q | ⟨q, -⟩
    · rw [q, if_pos rfl, if_pos rfl]
      exact bad
    · obtain ⟨s, hs, rfl⟩ := wb_nI (a := a) (h := 3) (by omega) q
      have hs : s < 4 := by omega
      rw [q, if_neg ne01, if_neg ne01, if_neg ne01]
      by_cases h0 : (0 : Int32) ≤ c
      · rw [if_pos h0]
        by_cases h1 : c ≤ 40
        · obtain ⟨z, hz, rfl⟩ := wb_nI (a := c) (h := 40) (by omega) (by unfold wb; rw [if_neg (Int32.not_lt.mpr h0), if_neg (show ¬ nI 40 < c from Int32.not_lt.mpr h1)])
          obtain ⟨σ1, e1, g1, k1⟩ := c_layOut (w := w) (z := z) hs hC
          have hv : σ1 (35 + 2 * s) 2 = nI (if w = 0 then 0 else z) := by rw [(g1.sh hs).2.1, zA_54, fs_s]
          rw [if_pos h1, gr_0_5, bd_s, lr_s hs, bd_s, e1, fh_cb_s, bd_s, lr_s hs, bd_s, gi_S2 hs, bd_s, hv]
          refine ⟨_, _, ?_, ⟨σ1, rfl, g1, k1⟩, r_layOut hs hz hR⟩
          refine zA_ok 40 0 _ ((hA.mono (by omega)).wid hw ?_)
          split <;> omega
        · rw [if_neg h1, e_X5_sheet_J36, if_pos h0, if_neg h1, cb_id, cb_id]
          exact ⟨_, _, hA.tell (by omega), c_tell0 hC, r_find0 hR⟩
      · rw [if_neg h0, e_X5_sheet_J36, if_neg h0, cb_id, cb_id]
        exact ⟨_, _, hA.tell (by omega), c_tell6 hC, r_find6 hR⟩
  unfold f_X4_sheet f_X5_sheet
  rw [ob_H, ob_M, r_isSheet, fh_cb_s]
  simp only [jn_s]
  by_cases w0 : w = 0
  · rw [if_pos w0, if_pos w0, e_X4_sheet_J22]
    exact good (Or.inl w0)
  rw [if_neg w0, if_neg w0]
  by_cases w8 : w = 8
  · rw [if_pos w8, if_pos w8, e_X4_sheet_J22]
    exact good (Or.inr (Or.inl w8))
  rw [if_neg w8, if_neg w8]
  by_cases w16 : w = 16
  · rw [if_pos w16, if_pos w16, e_X4_sheet_J22]
    exact good (Or.inr (Or.inr (Or.inl w16)))
  rw [if_neg w16, if_neg w16]
  by_cases w32 : w = 32
  · rw [if_pos w32, if_pos w32, e_X4_sheet_J22]
    exact good (Or.inr (Or.inr (Or.inr w32)))
  rw [if_neg w32, if_neg w32, e_X4_sheet_J27, c_isSheet, fh_cb_s]
  simp only [jn_s]
  rcases wb_or a 0 3 with q | ⟨q, -⟩
  · rw [q, if_pos rfl, if_pos rfl]
    exact bad
  · rw [q, if_neg ne01, if_neg ne01, if_pos trivial]
    exact bad
