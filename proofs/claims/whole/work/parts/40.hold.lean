/-! ===== hold, wipe, tear, image, undo ===== -/
theorem GR.cg {g : Nat} {σ : fh_S} {ρ ρ' : fh_Rw} (h : GR g σ ρ) (e : ∀ j, j < 73 → ρ' j = ρ j) : GR g σ ρ' := by
  obtain ⟨h1, h2, h3, h4, h5⟩ := h
  refine ⟨by rw [e 1 (by omega)]; exact h1, by rw [e 0 (by omega)]; exact h2, by rw [e 2 (by omega)]; exact h3, fun j hj => by rw [e (3 + j) (by omega)]; exact h4 j hj, fun f hf d hd => by rw [e (13 + 6 * d + f) (by omega)]; exact h5 f hf d hd⟩
theorem RI.cg {ρ ρ' : fh_Rw} {n T : Nat} (h : RI ρ n T) (e : ∀ j, j < 73 → ρ' j = ρ j) : RI ρ' n T := by
  have hn := h.1
  refine RI.of hn (by rw [e 1 (by omega)]; exact h.2.1) (by rw [e 0 (by omega)]; exact h.2.2.1) (fun j hj => by rw [e (3 + j) (by omega)]; exact h.2.2.2.1 j hj) (fun d hd f hf => by rw [e (13 + 6 * d + f) (by omega)]; exact h.ok hd)
theorem RI.spot {ρ : fh_Rw} {n T j : Nat} {v : Int32} (h : RI ρ n T) (hj : j < 10) (hv : v = -1 ∨ ∃ m, m < n ∧ v = nI m) : RI (upd ρ (3 + j) v) n T := by
  have hn := h.1
  refine RI.of hn (by rw [pk_un (by omega)]; exact h.2.1) (by rw [pk_un (by omega)]; exact h.2.2.1) (fun i hi => ?_) (fun d hd f hf => by rw [pk_un (by omega)]; exact h.ok hd)
  by_cases q : i = j
  · subst q
    rw [pk_us]
    exact hv
  · rw [pk_un (by omega)]
    exact h.2.2.2.1 i hi
theorem s_hold (a b : Int32) : fh_Stp (f_X4_hold 0 a b) (f_X5_hold 44 a b) := by
  apply fh_Stp.mk
  intro N A σ τ hN hA hC hR
  obtain ⟨n, hI⟩ := hA.1
  have hn := hI.1
  have hIt : RI (τ 45) n (100 * N) := by rw [hR.1]; exact hI
  have hsz : σ 1 9 = nI n := by rw [hC.1.1]; exact hI.2.1
  have bad : ∃ v' A', AI A' (N + 1) ∧ cE (f_X4_hold_J23 0 σ) σ A' v' ∧ rE (f_X5_hold_J20 44 τ) τ A' v' := by
    rw [e_X4_hold_J23, e_X5_hold_J20, cb_id, cb_id]
    exact ⟨_, _, hA.tell (by omega), c_tell0 hC, r_find0 hR⟩
  unfold f_X4_hold f_X5_hold
  rw [ob_H, ob_M, c_isSpot, fh_cb_s, r_isSpot, fh_cb_s]
  simp only [jn_s]
  rcases wb_or a 0 9 with q | ⟨q, -⟩
  · rw [q, if_pos rfl, if_pos rfl]
    exact bad
  · obtain ⟨j, hj, rfl⟩ := wb_nI (a := a) (h := 9) (by omega) q
    rw [q, if_neg ne01, if_neg ne01]
    have fin : (b = -1 ∨ ∃ m, m < n ∧ b = nI m) → ∃ v' A', AI A' (N + 1) ∧ cE (f_X4_hold_J30 0 (nI j) b σ) σ A' v' ∧ rE (f_X5_hold_J27 44 (nI j) b τ) τ A' v' := by
      intro hb
      rw [e_X4_hold_J30, gr_0_0, bd_s, gr_G6 fhG1, bd_s, st_G7 fhG1 (by omega), bd_s, e_X5_hold_J27, gr_44_0, bd_s, show (3 : Int32) = nI 3 from rfl, nI_add, st_45 (by omega), bd_s]
      refine ⟨_, fh_row A 45 (upd (A 45) (3 + j) b), hA.now ((hI.spot (by omega) hb).mono (by omega)), ⟨_, rfl, hC.now (hC.1.sp (by omega) b) (fun k _ h _ _ => fs_o (by omega)), fun k hk => fs_o (by omega)⟩, ⟨_, rfl, hR.st _ _, fun k hk => fs_o (by omega)⟩⟩
    by_cases h0 : b = -1
    · rw [if_pos h0, if_pos h0]
      exact fin (Or.inl h0)
    · rw [if_neg h0, if_neg h0, gr_0_0, bd_s, c_has fhG1 hsz, fh_cb_s, r_isDial (show n ≤ 1000 by omega) hIt.2.1, fh_cb_s]
      rcases db_or b (show n ≤ 1000 by omega) with h | ⟨h, d, hd, rfl⟩
      · rw [h, if_pos rfl, if_pos rfl]
        exact bad
      · rw [h, if_neg ne01, if_neg ne01]
        exact fin (Or.inr ⟨d, hd, rfl⟩)
/-! wipe -/
theorem CR.len {σ A : fh_S} {v : Int32} (h : CR σ A) : CR (fs σ 31 1 v) (fs A 44 7 v) := by
  obtain ⟨h1, h2, h3, h4, h5, h6, h7⟩ := h
  unfold CR
  rw [fs_o (σ := A) (show 45 ≠ 44 by omega), fs_o (σ := A) (show 46 ≠ 44 by omega), fs_o (σ := A) (show 48 ≠ 44 by omega), fs_o (σ := A) (show 50 ≠ 44 by omega), fs_o (σ := A) (show 53 ≠ 44 by omega), fs_o (σ := A) (show 54 ≠ 44 by omega), fs_o (σ := A) (show 55 ≠ 44 by omega), fs_ne (σ := A) (show 3 ≠ 7 by omega), fs_s (σ := A)]
  refine ⟨h1.mv (fun k _ _ => fs_o (by omega)), fun e => (h2 e).mv (fun k _ _ => fs_o (by omega)), by rw [fs_o (by omega)]; exact h3, fun j hj => by rw [fs_o (by omega)]; exact h4 j hj, fs_s, fun j hj => by rw [fs_o (by omega)]; exact h6 j hj, fun s hs => ?_⟩
  rw [fs_o (show 35 + 2 * s ≠ 31 by omega), fs_o (show 36 + 2 * s ≠ 31 by omega)]
  exact h7 s hs
theorem RR.len {σ A : fh_S} {v : Int32} (h : RR σ A) : RR (fs σ 44 7 v) (fs A 44 7 v) := by
  obtain ⟨h1, h2, h3, h4, h5, h6, h7, h8, h9⟩ := h
  unfold RR
  simp only [fs_o (show 45 ≠ 44 by omega), fs_o (show 46 ≠ 44 by omega), fs_o (show 48 ≠ 44 by omega), fs_o (show 50 ≠ 44 by omega), fs_o (show 53 ≠ 44 by omega), fs_o (show 54 ≠ 44 by omega), fs_o (show 55 ≠ 44 by omega), fs_ne (show 3 ≠ 7 by omega), fs_s]
  exact ⟨h1, h2, h3, h4, trivial, h6, h7, h8, h9⟩
theorem AI.len {A : fh_S} {N l : Nat} (h : AI A N) (hl : l ≤ 120) : AI (fs A 44 7 (nI l)) (N + 1) := by
  obtain ⟨h1, h2, h3, h4, h5, h6⟩ := h.mono (show N ≤ N + 1 by omega)
  unfold AI
  simp only [fs_o (show 45 ≠ 44 by omega), fs_o (show 46 ≠ 44 by omega), fs_o (show 48 ≠ 44 by omega), fs_o (show 50 ≠ 44 by omega), fs_o (show 53 ≠ 44 by omega), fs_o (show 54 ≠ 44 by omega), fs_ne (show 3 ≠ 7 by omega), fs_s]
  exact ⟨h1, h2, ⟨l, hl, rfl⟩, h4, h5, h6⟩
theorem s_wipe : fh_Stp (f_X4_wipe 0) (f_X5_wipe 44) := by
  apply fh_Stp.mk
  intro N A σ τ hN hA hC hR
  unfold f_X4_wipe f_X5_wipe
  rw [ob_H, ob_M, gr_0_3, bd_s, gi_31_1, bd_s, bd_s, pf_31_1, bd_s, gi_44_7, bd_s, pf_44_7, bd_s, hC.2.2.2.2.1, hR.2.2.2.2.1]
  exact ⟨_, fs A 44 7 (nI 0), hA.len (by omega), ⟨_, rfl, hC.len, fun k hk => fs_o (by omega)⟩, ⟨_, rfl, hR.len, fun k hk => fs_o (by omega)⟩⟩
/-! tear -/
theorem CR.kept {σ A : fh_S} {v : Int32} (h : CR σ A) (hv : v = 1 → GR 11 σ (A 46)) : CR (fs σ 0 7 v) (fs A 44 3 v) := by
  obtain ⟨h1, h2, h3, h4, h5, h6, h7⟩ := h
  unfold CR
  rw [fs_o (σ := A) (show 45 ≠ 44 by omega), fs_o (σ := A) (show 46 ≠ 44 by omega), fs_o (σ := A) (show 48 ≠ 44 by omega), fs_o (σ := A) (show 50 ≠ 44 by omega), fs_o (σ := A) (show 53 ≠ 44 by omega), fs_o (σ := A) (show 54 ≠ 44 by omega), fs_o (σ := A) (show 55 ≠ 44 by omega), fs_ne (σ := A) (show 7 ≠ 3 by omega), fs_s (σ := A)]
  refine ⟨h1.mv (fun k _ _ => fs_o (by omega)), fun e => (hv e).mv (fun k _ _ => fs_o (by omega)), fs_s, fun j hj => by rw [fs_o (by omega)]; exact h4 j hj, by rw [fs_o (by omega)]; exact h5, fun j hj => by rw [fs_o (by omega)]; exact h6 j hj, fun s hs => ?_⟩
  rw [fs_o (show 35 + 2 * s ≠ 0 by omega), fs_o (show 36 + 2 * s ≠ 0 by omega)]
  exact h7 s hs
theorem RR.kept {σ A : fh_S} {v : Int32} (h : RR σ A) : RR (fs σ 44 3 v) (fs A 44 3 v) := by
  obtain ⟨h1, h2, h3, h4, h5, h6, h7, h8, h9⟩ := h
  unfold RR
  simp only [fs_o (show 45 ≠ 44 by omega), fs_o (show 46 ≠ 44 by omega), fs_o (show 48 ≠ 44 by omega), fs_o (show 50 ≠ 44 by omega), fs_o (show 53 ≠ 44 by omega), fs_o (show 54 ≠ 44 by omega), fs_o (show 55 ≠ 44 by omega), fs_ne (show 7 ≠ 3 by omega), fs_s]
  exact ⟨h1, h2, trivial, h4, h5, h6, h7, h8, h9⟩
theorem AI.kept {A : fh_S} {N : Nat} {v : Int32} (h : AI A N) (hv : v = 0 ∨ (v = 1 ∧ ∃ n, RI (A 46) n (100 * N))) : AI (fs A 44 3 v) (N + 1) := by
  obtain ⟨h1, h2, h3, h4, h5, h6⟩ := h.mono (show N ≤ N + 1 by omega)
  unfold AI
  simp only [fs_o (show 45 ≠ 44 by omega), fs_o (show 46 ≠ 44 by omega), fs_o (show 48 ≠ 44 by omega), fs_o (show 50 ≠ 44 by omega), fs_o (show 53 ≠ 44 by omega), fs_o (show 54 ≠ 44 by omega), fs_ne (show 7 ≠ 3 by omega), fs_s]
  refine ⟨h1, ?_, h3, h4, h5, h6⟩
  rcases hv with e | ⟨e, n, hn⟩
  · exact Or.inl e
  · exact Or.inr ⟨e, n, hn.mono (by omega)⟩
theorem pz_0_7 {σ : fh_S} {v : Int32} (h : v = 0 ∨ v = 1) : fh_pz σ 4 0 7 v = some (fs σ 0 7 v) := by
  unfold fh_pz
  rw [if_pos h, pf_0_7]
theorem pz_44_3 {σ : fh_S} {v : Int32} (h : v = 0 ∨ v = 1) : fh_pz σ 5 44 3 v = some (fs σ 44 3 v) := by
  unfold fh_pz
  rw [if_pos h, pf_44_3]
theorem s_tear : fh_Stp (f_X4_tear 0) (f_X5_tear 44) := by
  apply fh_Stp.mk
  intro N A σ τ hN hA hC hR
  unfold f_X4_tear f_X5_tear
  rw [ob_H, ob_M, gi_0_7, bd_s, pz_0_7 (Or.inl rfl), bd_s, gi_44_3, bd_s, jn_s, hC.2.2.1, hR.2.2.1, e_X5_tear_J12, e_X5_tear_J12, pz_44_3 (Or.inl rfl), bd_s, bd_s]
  have c1 : CR (fs σ 0 7 0) (fs A 44 3 0) := hC.kept (fun e => absurd e (by decide))
  by_cases q : A 44 3 = 0
  · rw [if_pos q, if_pos q]
    exact ⟨_, fs A 44 3 0, hA.kept (Or.inl rfl), ⟨_, rfl, c1, fun k hk => fs_o (by omega)⟩, ⟨_, rfl, hR.kept, fun k hk => fs_o (by omega)⟩⟩
  · rw [if_neg q, if_neg q]
    exact ⟨_, fs A 44 3 0, hA.kept (Or.inl rfl), ⟨_, rfl, c1, fun k hk => fs_o (by omega)⟩, ⟨_, rfl, hR.kept, fun k hk => fs_o (by omega)⟩⟩
/-! undo -/
theorem s_undo : fh_Stp (f_X4_undo 0) (f_X5_undo 44) := by
  apply fh_Stp.mk
  intro N A σ τ hN hA hC hR
  unfold f_X4_undo f_X5_undo
  rw [ob_H, ob_M, gi_0_7, bd_s, gi_44_3, bd_s, hC.2.2.1, hR.2.2.1]
  rcases hA.2.1 with e | ⟨e, n, hI⟩
  · rw [e, if_pos rfl, if_pos rfl, cb_id, cb_id]
    exact ⟨_, _, hA.tell (by omega), c_tell3 hC, r_find3 hR⟩
  · rw [e, if_neg ne01, if_neg ne01, gr_0_0, bd_s, gr_0_1, bd_s, gr_44_1, bd_s, gr_44_0, bd_s]
    obtain ⟨σ1, e1, g1, k1⟩ := c_become (Or.inr (Or.inr (Or.inl rfl))) (hC.2.1 e)
    obtain ⟨τ1, e2, g2, k2⟩ := r_copy ar_46 ar_45 (by omega) τ
    rw [e1, fh_cb_s, bd_s, gi_G10 fhG1, bd_s, e2, fh_cb_s, bd_s, ld_45_0, bd_s, g1.2.1, g2 0, if_pos (by omega), hR.2.1]
    have hτ : τ1 45 = fun j => if j < 73 then A 46 j else A 45 j := by
      funext j
      rw [g2 j, hR.1, hR.2.1]
    have hc : ∀ j, j < 73 → (fun j => if j < 73 then A 46 j else A 45 j) j = A 46 j := fun j hj => if_pos hj
    exact ⟨_, fh_row A 45 (fun j => if j < 73 then A 46 j else A 45 j), hA.now ((hI.cg hc).mono (by omega)), ⟨σ1, rfl, hC.now (g1.cg hc) (fun k _ h _ _ => k1 k (by omega)), fun k hk => k1 k (by omega)⟩, ⟨τ1, rfl, hR.now hτ (fun k _ h _ _ _ _ => k2 k h), fun k hk => k2 k (by omega)⟩⟩
