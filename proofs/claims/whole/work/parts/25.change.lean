/-! ===== change, jog, stop, go, seed ===== -/
def mb_ (b v : Int32) (n : Nat) : Int32 := if b = 0 then wb v 0 6 else if b = 1 then wb v 0 719 else if b = 2 then db v n else if b = 3 then wb v (-99) 99 else if b = 4 then 0 else if b = 5 then wb v 0 9 else 0
theorem c_may {b v : Int32} {n : Nat} {σ : fh_S} (h : σ 1 9 = nI n) : f_X0_mayBecome 1 b v σ = some (mb_ b v n, σ) := by
  unfold f_X0_mayBecome mb_
  simp only [ob_G fhG1, c_isKind, c_isHour, c_has fhG1 h, c_isWithin, fh_cb_s, wb_rz, db_rz, rz0]
  repeat' split
  all_goals rfl
theorem r_may {b v : Int32} {n : Nat} {σ : fh_S} (hn : n ≤ 1000) (h : σ 45 1 = nI n) : f_X5_mayBe 44 b v σ = some (mb_ b v n, σ) := by
  unfold f_X5_mayBe mb_
  simp only [ob_M, r_isKind, r_isHour, r_isDial hn h, r_within, fh_cb_s, wb_rz, db_rz, rz0]
  repeat' split
  all_goals rfl
theorem at_n (d w : Nat) : (13 : Int32) + 6 * nI d + nI w = nI (13 + 6 * d + w) := by
  show nI 13 + nI 6 * nI d + nI w = _
  rw [pk_mul, nI_add, nI_add]
theorem ar_w {w : Nat} (hw : w < 6) : fh_arr (2 + w) = some 10 := by
  rcases (show w = 0 ∨ w = 1 ∨ w = 2 ∨ w = 3 ∨ w = 4 ∨ w = 5 by omega) with rfl | rfl | rfl | rfl | rfl | rfl <;> rfl
theorem r_become {j : Nat} {v : Int32} {σ : fh_S} (hj : j < 73) : f_X5_become 44 (nI j) v σ = some (σ 45 j, fs σ 45 j v) := by
  unfold f_X5_become
  simp only [ob_M, gr_44_0, bd_s, ld_45 hj, st_45 hj]
theorem CR.g {σ A : fh_S} (h : CR σ A) : GR 1 σ (A 45) := h.1
theorem s_change (a b v : Int32) : fh_Stp (f_X4_change 0 a b v) (f_X5_change 44 a b v) := by
  apply fh_Stp.mk
  intro N A σ τ hN hA hC hR
  obtain ⟨n, hI⟩ := hA.1
  have hn := hI.1
  have hIt : RI (τ 45) n (100 * N) := by rw [hR.1]; exact hI
  have hsz : σ 1 9 = nI n := by rw [hC.1.1]; exact hI.2.1
  unfold f_X4_change f_X5_change
  simp only [ob_H, ob_M, gr_0_0, bd_s, r_isDial (show n ≤ 1000 by omega) hIt.2.1, r_may (show n ≤ 1000 by omega) hIt.2.1, fh_cb_s, cb_id, jn_s, e_X5_change_J30]
  by_cases hb : ∃ w, w < 6 ∧ b = nI w
  · obtain ⟨w, hw, rfl⟩ := hb
    rw [c_rowOf hw, fh_cb_s, on_s]
    simp only [c_has fhG1 hsz, fh_cb_s, jn_s, e_X4_change_J38a, cb_id, c_may hsz]
    rcases db_or a (show n ≤ 1000 by omega) with h | ⟨h, d, hd, rfl⟩
    · rw [h]
      simp only [if_true]
      exact ⟨_, _, hA.tell (by omega), c_tell0 hC, r_find0 hR⟩
    · rw [h]
      simp only [ne01, if_false]
      by_cases hm : mb_ (nI w) v n = 0
      · rw [hm]
        simp only [if_true]
        exact ⟨_, _, hA.tell (by omega), c_tell0 hC, r_find0 hR⟩
      · rw [if_neg hm, if_neg hm, ld_ok (ar_w hw) (by omega) (by omega), bd_s, st_ok (ar_w hw) (by omega) (by omega), bd_s]
        unfold f_X5_at
        rw [fh_cb_s, at_n, r_become (by omega)]
        have hv : okf n w v := by
          rcases (show w = 0 ∨ w = 1 ∨ w = 2 ∨ w = 3 ∨ w = 4 ∨ w = 5 by omega) with rfl | rfl | rfl | rfl | rfl | rfl
          · have hm' : ¬ wb v 0 6 = 0 := hm
            rcases wb_or v 0 6 with q | ⟨q, -⟩
            · exact absurd q hm'
            · obtain ⟨k, hk, e⟩ := wb_nI (a := v) (h := 6) (by omega) q
              exact ⟨fun _ => ⟨k, by omega, e⟩, by simp, by simp, by simp, by simp, by simp⟩
          · have hm' : ¬ wb v 0 719 = 0 := hm
            rcases wb_or v 0 719 with q | ⟨q, -⟩
            · exact absurd q hm'
            · obtain ⟨k, hk, e⟩ := wb_nI (a := v) (h := 719) (by omega) q
              exact ⟨by simp, fun _ => ⟨k, by omega, e⟩, by simp, by simp, by simp, by simp⟩
          · have hm' : ¬ db v n = 0 := hm
            rcases db_or v (show n ≤ 1000 by omega) with q | ⟨q, k, hk, e⟩
            · exact absurd q hm'
            · exact ⟨by simp, by simp, fun _ => ⟨k, by omega, e⟩, by simp, by simp, by simp⟩
          · have hm' : ¬ wb v (-99) 99 = 0 := hm
            rcases wb_or v (-99) 99 with q | ⟨q, q1, q2⟩
            · exact absurd q hm'
            · exact ⟨by simp, by simp, by simp, fun _ => ⟨Int32.le_iff_toInt_le.mp q1, Int32.le_iff_toInt_le.mp q2⟩, by simp, by simp⟩
          · exact absurd rfl hm
          · have hm' : ¬ wb v 0 9 = 0 := hm
            rcases wb_or v 0 9 with q | ⟨q, -⟩
            · exact absurd q hm'
            · obtain ⟨k, hk, e⟩ := wb_nI (a := v) (h := 9) (by omega) q
              exact ⟨by simp, by simp, by simp, by simp, by simp, fun _ => ⟨k, by omega, e⟩⟩
        have e1 : σ (2 + w) d = A 45 (13 + 6 * d + w) := by
          have := hC.1.2.2.2.2 w hw d (by omega)
          rw [show 1 + 1 + w = 2 + w by omega] at this
          exact this
        have hG : GR 1 (fs σ (2 + w) d v) (upd (A 45) (13 + 6 * d + w) v) := by
          have := hC.1.st hw (show d < 10 by omega) v
          rw [show 1 + 1 + w = 2 + w by omega] at this
          exact this
        exact ⟨A 45 (13 + 6 * d + w), fh_row A 45 (upd (A 45) (13 + 6 * d + w) v), hA.now ((hI.mono (by omega)).set hd hw hv), ⟨_, by rw [e1], hC.now hG (fun k _ h _ _ => fs_o (by omega)), fun k hk => fs_o (by omega)⟩, ⟨_, by rw [hR.1], hR.now (by rw [fs_row, hR.1]) (fun k _ h _ _ _ _ => fs_o h), fun k hk => fs_o (by omega)⟩⟩
  · have nb : ∀ w, w < 6 → ¬ b = nI w := fun w hw e => hb ⟨w, hw, e⟩
    have n0 : ¬ b = 0 := nb 0 (by omega)
    have n1 : ¬ b = 1 := nb 1 (by omega)
    have n2 : ¬ b = 2 := nb 2 (by omega)
    have n3 : ¬ b = 3 := nb 3 (by omega)
    have n4 : ¬ b = 4 := nb 4 (by omega)
    have n5 : ¬ b = 5 := nb 5 (by omega)
    have hm : mb_ b v n = 0 := by
      unfold mb_
      rw [if_neg n0, if_neg n1, if_neg n2, if_neg n3, if_neg n4, if_neg n5]
    rw [c_rowOfN n0 n1 n2 n3 n4 n5, fh_cb_s, on_n]
    simp only [c_has fhG1 hsz, fh_cb_s, jn_s, e_X4_change_J38, cb_id, hm, if_true, ite_self]
    exact ⟨_, _, hA.tell (by omega), c_tell0 hC, r_find0 hR⟩
theorem s_jog (a v : Int32) : fh_Stp (f_X4_jog 0 a v) (f_X5_jog 44 a v) := by
  apply fh_Stp.mk
  intro N A σ τ hN hA hC hR
  obtain ⟨n, hI⟩ := hA.1
  have hn := hI.1
  have hIt : RI (τ 45) n (100 * N) := by rw [hR.1]; exact hI
  have hsz : σ 1 9 = nI n := by rw [hC.1.1]; exact hI.2.1
  unfold f_X4_jog f_X5_jog
  simp only [ob_H, ob_M, gr_0_0, gr_44_0, bd_s, r_isDial (show n ≤ 1000 by omega) hIt.2.1, c_has fhG1 hsz, c_isWithin, r_within, fh_cb_s, cb_id, jn_s, e_X5_jog_J21, e_X4_jog_J24]
  rcases db_or a (show n ≤ 1000 by omega) with h | ⟨h, d, hd, rfl⟩
  · rw [h]
    simp only [if_true]
    exact ⟨_, _, hA.tell (by omega), c_tell0 hC, r_find0 hR⟩
  · rw [h]
    simp only [ne01, if_false]
    rcases wb_or v (-719) 719 with q | ⟨q, -⟩
    · rw [q]
      simp only [if_true]
      exact ⟨_, _, hA.tell (by omega), c_tell0 hC, r_find0 hR⟩
    · rw [q]
      simp only [ne01, if_false]
      have hd10 : d < 10 := by omega
      unfold f_X5_at
      simp only [c_turn fhG1 hd10, fh_cb_s, gr_G1 fhG1, bd_s, ld_G2 fhG1 hd10, at_1, r_is1 hd10, r_round]
      rw [st_45 (by omega), bd_s, hR.1, hC.1.f1 hd10]
      obtain ⟨hh, h1, h2, -⟩ := rd_i (A 45 (13 + 6 * d + 1) + v)
      refine ⟨rd_ (A 45 (13 + 6 * d + 1) + v), fh_row A 45 (upd (A 45) (13 + 6 * d + 1) (rd_ (A 45 (13 + 6 * d + 1) + v))), hA.now ((hI.mono (by omega)).set hd (by omega) ⟨by simp, fun _ => ⟨hh, h1, h2⟩, by simp, by simp, by simp, by simp⟩), ⟨_, by rw [fs_s], hC.now (hC.1.st (show 1 < 6 by omega) hd10 _) (fun k _ h _ _ => fs_o (by omega)), fun k hk => fs_o (by omega)⟩, ⟨_, by rw [fs_s], hR.now (by rw [fs_row, hR.1]) (fun k _ h _ _ _ _ => fs_o h), fun k hk => fs_o (by omega)⟩⟩
/-! stopping -/
def sp_ (ρ : fh_Rw) (d : Nat) (s : Int32) : fh_Rw := if ρ (13 + 6 * d + 4) = s then ρ else upd (upd ρ (13 + 6 * d + 4) s) (13 + 6 * d + 3) (1 - s)
theorem upd_id {f : fh_Rw} {k : Nat} {v : Int32} (h : f k = v) : upd f k v = f := by
  funext j
  unfold upd
  split
  · rename_i e; subst e; exact h.symm
  · rfl
theorem RI.stop {ρ : fh_Rw} {n T : Nat} (h : RI ρ n T) {d : Nat} {s : Int32} (hd : d < n) (hs : s = 0 ∨ s = 1) : RI (sp_ ρ d s) n T := by
  unfold sp_
  split
  · exact h
  · refine (h.set hd (show 4 < 6 by omega) ⟨by simp, by simp, by simp, by simp, fun _ => hs, by simp⟩).set hd (show 3 < 6 by omega) ⟨by simp, by simp, by simp, fun _ => ?_, by simp, by simp⟩
    rcases hs with rfl | rfl <;> decide
theorem r_stops {d : Nat} {s : Int32} {σ : fh_S} (hd : d < 10) (hs : s = 0 ∨ s = 1) : ∃ σ', f_X5_stops 44 (nI d) s σ = some (if σ 45 (13 + 6 * d + 4) = s then 0 else 1, σ') ∧ σ' 45 = sp_ (σ 45) d s ∧ ∀ a, a ≠ 45 → σ' a = σ a := by
  unfold f_X5_stops f_X5_at
  simp only [ob_M, fh_cb_s, at_4, r_become (show 13 + 6 * d + 4 < 73 by omega), jn_s]
  by_cases h : σ 45 (13 + 6 * d + 4) = s
  · rw [if_pos h, e_X5_stops_J19]
    unfold f_X5_at
    simp only [gr_44_0, bd_s, fh_cb_s, at_3, jn_s, r_is3 hd, e_X5_stops_J45, if_true]
    rw [st_45 (by omega), bd_s, rz0]
    refine ⟨_, by rw [if_pos h], ?_, fun a ha => by rw [fs_o ha, fs_o ha]⟩
    unfold sp_
    rw [fs_row, fs_row, upd_id (by rw [pk_un (by omega)]), upd_id h, if_pos h]
  · rw [if_neg h, e_X5_stops_J19]
    unfold f_X5_at
    simp only [gr_44_0, bd_s, fh_cb_s, at_3, jn_s, e_X5_stops_J45, ne01, if_false]
    rw [st_45 (by omega), bd_s, rz1]
    refine ⟨_, by rw [if_neg h], ?_, fun a ha => by rw [fs_o ha, fs_o ha]⟩
    unfold sp_
    rw [fs_row, fs_row, if_neg h]
theorem c_freeze {g d : Nat} {σ : fh_S} {ρ : fh_Rw} (hg : fh_G g) (hd : d < 10) (hR : GR g σ ρ) : ∃ σ', f_X0_freeze g (nI d) σ = some (if ρ (13 + 6 * d + 4) = 1 then 0 else 1, σ') ∧ GR g σ' (sp_ ρ d 1) ∧ ∀ a, ¬ (g ≤ a ∧ a < g + 10) → σ' a = σ a := by
  unfold f_X0_freeze
  simp only [ob_G hg, gr_G4 hg, gr_G3 hg, bd_s, ld_G5 hg hd, hR.f4 hd, st_G5 hg hd, st_G4 hg hd, rz0, rz1]
  unfold sp_
  by_cases h : ρ (13 + 6 * d + 4) = 1
  · simp only [h, if_true]
    exact ⟨σ, rfl, hR, fun _ _ => rfl⟩
  · simp only [h, if_false]
    exact ⟨_, rfl, (hR.st (show 4 < 6 by omega) hd 1).st (show 3 < 6 by omega) hd 0, fun a ha => by rw [fs_o (by omega), fs_o (by omega)]⟩
theorem c_thaw {g d : Nat} {σ : fh_S} {ρ : fh_Rw} (hg : fh_G g) (hd : d < 10) (hR : GR g σ ρ) : ∃ σ', f_X0_thaw g (nI d) σ = some (if ρ (13 + 6 * d + 4) = 0 then 0 else 1, σ') ∧ GR g σ' (sp_ ρ d 0) ∧ ∀ a, ¬ (g ≤ a ∧ a < g + 10) → σ' a = σ a := by
  unfold f_X0_thaw
  simp only [ob_G hg, gr_G4 hg, gr_G3 hg, bd_s, ld_G5 hg hd, hR.f4 hd, st_G5 hg hd, st_G4 hg hd, rz0, rz1]
  unfold sp_
  by_cases h : ρ (13 + 6 * d + 4) = 0
  · simp only [h, if_true]
    exact ⟨σ, rfl, hR, fun _ _ => rfl⟩
  · simp only [h, if_false]
    exact ⟨_, rfl, (hR.st (show 4 < 6 by omega) hd 0).st (show 3 < 6 by omega) hd 1, fun a ha => by rw [fs_o (by omega), fs_o (by omega)]⟩
theorem s_stop (a b : Int32) : fh_Stp (f_X4_stop 0 a b) (f_X5_stop 44 a b) := by
  apply fh_Stp.mk
  intro N A σ τ hN hA hC hR
  obtain ⟨n, hI⟩ := hA.1
  have hn := hI.1
  have hIt : RI (τ 45) n (100 * N) := by rw [hR.1]; exact hI
  have hsz : σ 1 9 = nI n := by rw [hC.1.1]; exact hI.2.1
  unfold f_X4_stop f_X5_stop
  simp only [ob_H, ob_M, gr_0_0, bd_s, r_isDial (show n ≤ 1000 by omega) hIt.2.1, c_has fhG1 hsz, c_isWithin, r_within, fh_cb_s, cb_id, jn_s, e_X5_stop_J17, e_X4_stop_J20]
  rcases db_or a (show n ≤ 1000 by omega) with h | ⟨h, d, hd, rfl⟩
  · rw [h]
    simp only [if_true]
    exact ⟨_, _, hA.tell (by omega), c_tell0 hC, r_find0 hR⟩
  · rw [h]
    simp only [ne01, if_false]
    rcases wb_or b 0 1 with q | ⟨q, -⟩
    · rw [q]
      simp only [if_true]
      exact ⟨_, _, hA.tell (by omega), c_tell0 hC, r_find0 hR⟩
    · have hb : b = 0 ∨ b = 1 := by
        obtain ⟨k, hk, e⟩ := wb_nI (a := b) (h := 1) (by omega) q
        rcases (show k = 0 ∨ k = 1 by omega) with rfl | rfl
        · exact Or.inl e
        · exact Or.inr e
      rw [q]
      simp only [ne01, if_false]
      obtain ⟨τ1, e2, g2, k2⟩ := r_stops (σ := τ) (show d < 10 by omega) hb
      have hc : ∃ σ1, (if b = 1 then fh_cb (f_X0_freeze 1 (nI d) σ) fun r22 σ21 => f_X4_stop_J51 r22 σ21 else fh_cb (f_X0_thaw 1 (nI d) σ) fun r19 σ18 => f_X4_stop_J51 r19 σ18) = some (if A 45 (13 + 6 * d + 4) = b then 0 else 1, σ1) ∧ GR 1 σ1 (sp_ (A 45) d b) ∧ ∀ a, ¬ (1 ≤ a ∧ a < 1 + 10) → σ1 a = σ a := by
        rcases hb with rfl | rfl
        · obtain ⟨σ1, e1, g1, k1⟩ := c_thaw fhG1 (show d < 10 by omega) hC.1
          rw [if_neg (by decide), e1, fh_cb_s, e_X4_stop_J51]
          refine ⟨σ1, ?_, g1, k1⟩
          by_cases z : A 45 (13 + 6 * d + 4) = 0 <;> simp [z]
        · obtain ⟨σ1, e1, g1, k1⟩ := c_freeze fhG1 (show d < 10 by omega) hC.1
          rw [if_pos rfl, e1, fh_cb_s, e_X4_stop_J51]
          refine ⟨σ1, ?_, g1, k1⟩
          by_cases z : A 45 (13 + 6 * d + 4) = 1 <;> simp [z]
      obtain ⟨σ1, e1, g1, k1⟩ := hc
      rw [e1, e2, fh_cb_s, hR.1]
      refine ⟨if A 45 (13 + 6 * d + 4) = b then 0 else 1, fh_row A 45 (sp_ (A 45) d b), hA.now ((hI.mono (by omega)).stop hd hb), ⟨σ1, rfl, hC.now g1 (fun k _ h _ _ => k1 k (by omega)), fun k hk => k1 k (by omega)⟩, ⟨τ1, ?_, hR.now (by rw [g2, hR.1]) (fun k _ h _ _ _ _ => k2 k h), fun k hk => k2 k (by omega)⟩⟩
      by_cases z : A 45 (13 + 6 * d + 4) = b <;> simp [z]
theorem s_go (a : Int32) : fh_Stp (f_X4_go 0 a) (f_X5_go 44 a) := by
  apply fh_Stp.mk
  intro N A σ τ hN hA hC hR
  obtain ⟨n, hI⟩ := hA.1
  have hn := hI.1
  have hIt : RI (τ 45) n (100 * N) := by rw [hR.1]; exact hI
  obtain ⟨t, ht, et⟩ := hI.2.2.1
  unfold f_X4_go f_X5_go
  simp only [ob_H, ob_M, gr_0_0, gr_44_0, bd_s, c_isWithin, r_within, fh_cb_s, cb_id, gi_G10 fhG1, hC.1.2.1, et, ld_45_0]
  rcases wb_or a 1 100 with q | ⟨q, q1, q2⟩
  · rw [q]
    simp only [if_true]
    exact ⟨_, _, hA.tell (by omega), c_tell0 hC, r_find0 hR⟩
  · rw [q]
    simp only [ne01, if_false]
    obtain ⟨k, hk, rfl⟩ := nI_of2 (M := 100) (n := 100) (by decide) (show ¬ a < 0 by
      intro z
      have z1 := Int32.lt_iff_toInt_lt.mp z
      have z2 := Int32.le_iff_toInt_le.mp q1
      rw [i_0] at z1
      rw [show (1 : Int32).toInt = 1 from rfl] at z2
      omega) q2
    rw [show (99999 : Int32) = nI 99999 from rfl, pk_sub (by omega), if_pos (nI_le (by omega) (by omega)), hR.1, et, nI_add, if_pos (nI_le (by omega) (by omega))]
    obtain ⟨σ1, e1, g1, k1⟩ := c_ticks fhG1 hC.1 hI (show k ≤ 200 by omega) (by omega)
    obtain ⟨τ1, e2, g2, k2⟩ := r_ticks hIt (show k ≤ 200 by omega)
    rw [e1, e2, fh_cb_s, fh_cb_s]
    exact ⟨tN_ n k (A 45) 0, fh_row A 45 (tN_ n k (A 45)), hA.now ((hI.ticks k (100 * N)).mono (by omega)), ⟨σ1, by rw [g1.2.1], hC.now g1 (fun k _ h _ _ => k1 k (by omega)), fun k hk => k1 k (by omega)⟩, ⟨τ1, by rw [g2, hR.1], hR.now (by rw [g2, hR.1]) (fun k _ h _ h' _ _ => k2 k h h'), fun k hk => k2 k (by omega) (by omega)⟩⟩
theorem s_seed (a : Int32) : fh_Stp (f_X4_seed 0 a) (f_X5_seed 44 a) := by
  apply fh_Stp.mk
  intro N A σ τ hN hA hC hR
  obtain ⟨n, hI⟩ := hA.1
  unfold f_X4_seed f_X5_seed
  simp only [ob_H, ob_M, gr_0_0, bd_s, gi_G11 fhG1, pf_G11 fhG1, cb_id]
  rw [show (2 : Int32) = nI 2 from rfl, r_become (by omega), hC.1.2.2.1, hR.1]
  refine ⟨A 45 2, fh_row A 45 (upd (A 45) 2 a), hA.now (n := n) ?_, ⟨_, rfl, hC.now (hC.1.dr a) (fun k _ h _ _ => fs_o (by omega)), fun k hk => fs_o (by omega)⟩, ⟨_, rfl, hR.now (by rw [fs_row, hR.1]) (fun k _ h _ _ _ _ => fs_o h), fun k hk => fs_o (by omega)⟩⟩
  have hI' := hI.mono (show 100 * N ≤ 100 * (N + 1) by omega)
  exact RI.of hI'.1 (by rw [pk_un (by omega)]; exact hI'.2.1) (by rw [pk_un (by omega)]; exact hI'.2.2.1) (fun j hj => by rw [pk_un (by omega)]; exact hI'.2.2.2.1 j hj) (fun d hd f hf => by rw [pk_un (by omega)]; exact hI'.ok hd)
