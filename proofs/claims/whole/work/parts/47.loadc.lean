/-! ===== load: the reference, the call ===== -/
theorem db_out {m n : Nat} (hm : n ≤ m) (hn : m ≤ 1000) : db (nI m) n = 0 := by
  unfold db
  rw [if_neg (show ¬ nI m < 0 from nI_nlt (b := 0) (by omega) (by omega)), if_pos (nI_le (by omega) (by omega))]
theorem r_loadL {s n z y : Nat} (hs : s < 4) (hn : n ≤ 10) (hz : z ≤ 40) (hy : y = if n < z then n else z) : ∀ (k i : Nat), i + k = y → ∀ fu : Nat, k < fu → ∀ (σ A : fh_S), A 45 1 = nI n → A 54 s = nI z → RR σ A →
    rE (fh_fx (ρ := Int32 → fh_S → Option (Int32 × fh_S)) (fun _ _ => none) (f_X5_load_B20 44 (nI s)) fu (nI i) σ) σ (fh_row A 45 (lv_ (A 55) s k i (A 45)).2) (nI (lv_ (A 55) s k i (A 45)).1) := by
  intro k
  induction k with
  | zero =>
    intro i hi fu hfu σ A e1 e2 hR
    obtain ⟨f, rfl⟩ : ∃ f, fu = f + 1 := ⟨fu - 1, by omega⟩
    have hd : σ 45 1 = nI n := by rw [hR.1, e1]
    rw [fx_s, e_X5_load_B20, gr_44_18, bd_s, ld_54 hs, bd_s, hR.2.2.2.2.2.2.2.1, e2]
    unfold lv_
    rw [row_id]
    by_cases q : n < z
    · rw [if_pos q] at hy
      rw [if_neg (nI_ge (by omega) (by omega)), r_isDial (show n ≤ 1000 by omega) hd, fh_cb_s, db_out (by omega) (by omega), if_pos rfl]
      exact ⟨σ, rfl, hR, fun _ _ => rfl⟩
    · rw [if_neg q] at hy
      rw [if_pos (nI_le (by omega) (by omega))]
      exact ⟨σ, rfl, hR, fun _ _ => rfl⟩
  | succ k ih =>
    intro i hi fu hfu σ A e1 e2 hR
    obtain ⟨f, rfl⟩ : ∃ f, fu = f + 1 := ⟨fu - 1, by omega⟩
    have hd : σ 45 1 = nI n := by rw [hR.1, e1]
    have hyy : y ≤ n ∧ y ≤ z := by rw [hy]; split <;> omega
    rw [fx_s, e_X5_load_B20, gr_44_18, bd_s, ld_54 hs, bd_s, hR.2.2.2.2.2.2.2.1, e2, if_neg (nI_ge (by omega) (by omega)), r_isDial (show n ≤ 1000 by omega) hd, fh_cb_s, db_in (by omega) hn, if_neg ne01, gr_44_19, bd_s, at_55, ld_55 (by omega), bd_s, r_isHour, fh_cb_s, hR.2.2.2.2.2.2.2.2]
    unfold lv_
    by_cases q : wb (A 55 (40 * s + i)) 0 719 = 0
    · rw [if_pos q, if_pos q, row_id]
      exact ⟨σ, rfl, hR, fun _ _ => rfl⟩
    · rw [if_neg q, if_neg q, gr_44_0, bd_s]
      unfold f_X5_at
      rw [fh_cb_s, at_1, bd_s, ld_55 (by omega), bd_s, st_45 (by omega), bd_s, nI_1, hR.2.2.2.2.2.2.2.2]
      have := ih (i + 1) (by omega) f (by omega) _ _ (by rw [fh_row_s, pk_un (by omega)]; exact e1) (by rw [fh_row_n (by omega)]; exact e2) (hR.st (13 + 6 * i + 1) (A 55 (40 * s + i)))
      rw [row2, fh_row_s, fh_row_n (show 55 ≠ 45 by omega)] at this
      exact this.bk (fun k hk => fs_o (by omega))
theorem s_load (a : Int32) : fh_Stp (f_X4_load 0 a) (f_X5_load 44 a) := by
  apply fh_Stp.mk
  intro N A σ τ hN hA hC hR
  obtain ⟨n, hI⟩ := hA.1
  have hn := hI.1
  have hsz : σ 1 9 = nI n := by rw [hC.1.1]; exact hI.2.1
  unfold f_X4_load f_X5_load
  rw [ob_H, ob_M]
  rcases wb_or a 0 3 with q | ⟨q, -⟩
  · rw [c_fosB q, fh_cb_s, r_lackB q, fh_cb_s, if_neg (show ¬ (-1000001 : Int32) = 0 by decide), if_neg (show ¬ (-1000001 : Int32) = 0 by decide), r_lackB q, fh_cb_s, cb_id, cb_id]
    exact ⟨_, _, hA.tell (by omega), c_tell0 hC, r_find0 hR⟩
  · obtain ⟨s, hs, rfl⟩ := wb_nI (a := a) (h := 3) (by omega) q
    have hs : s < 4 := by omega
    obtain ⟨-, z, hz, ez⟩ := hA.2.2.2.2.1 s hs
    rw [c_fos hs q hC, fh_cb_s, r_lack hs q hR, fh_cb_s]
    by_cases w : A 53 s = 0
    · rw [if_pos w, if_neg (show ¬ (-1000006 : Int32) = 0 by decide), if_neg (show ¬ (-1000006 : Int32) = 0 by decide), r_lack hs q hR, fh_cb_s, if_pos w, cb_id, cb_id]
      exact ⟨_, _, hA.tell (by omega), c_tell5 hC, r_find5 hR⟩
    · rw [if_neg w, if_pos (show (0 : Int32) = 0 from rfl), if_pos (show (0 : Int32) = 0 from rfl), gr_0_5, bd_s, lr_s hs, bd_s, gi_S2 hs, bd_s, gr_0_0, bd_s, gi_G9 fhG1, bd_s, j_min, fh_cb_s, hsz, (hC.sh hs).2.1, ez]
      have hm : mn_ (nI z) (nI n) = nI (if n < z then n else z) := by
        unfold mn_
        by_cases h : n < z
        · rw [if_pos (nI_lt h (by omega)), if_pos h]
        · rw [if_neg (nI_nlt (by omega) (by omega)), if_neg h]
      have hle : (if n < z then n else z) ≤ n := by split <;> omega
      rw [hm]
      exact ⟨_, _, hA.now ((lv_ok (m := A 55) (s := s) _ 0 (A 45) (by omega) hI).mono (by omega)), c_loadL hs hn hle _ 0 (Nat.zero_add _) fh_fu (by unfold fh_fu; omega) σ A hC, r_loadL hs hn hz rfl _ 0 (Nat.zero_add _) fh_fu (by unfold fh_fu; omega) τ A hI.2.1 ez hR⟩
