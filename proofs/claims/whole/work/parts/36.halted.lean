/-! ===== halted, weakest ===== -/
theorem sd_lt {ρ : fh_Rw} {n s a : Nat} (hn : n ≤ 10) : sd_ ρ n s a < 1024 := ms_lt hn
theorem p2_lt {d : Nat} (hd : d < 10) : 2 ^ d < 1024 := show 2 ^ d < 2 ^ 10 from Nat.pow_lt_pow_right (by omega) hd
theorem s_halted (a b : Int32) : fh_Stp (f_X4_halted 0 a b) (f_X5_halted 44 a b) := by
  apply fh_Stp.mk
  intro N A σ τ hN hA hC hR
  obtain ⟨n, hI⟩ := hA.1
  have hn := hI.1
  have hIt : RI (τ 45) n (100 * N) := by rw [hR.1]; exact hI
  have hsz : σ 1 9 = nI n := by rw [hC.1.1]; exact hI.2.1
  unfold f_X4_halted f_X5_halted
  simp only [ob_H, ob_M, gr_0_0, bd_s, r_isDial (show n ≤ 1000 by omega) hIt.2.1, c_has fhG1 hsz, c_isWithin, r_within, fh_cb_s, cb_id, jn_s, e_X4_halted_J21, e_X5_halted_J32]
  rcases db_or a (show n ≤ 1000 by omega) with h | ⟨h, d, hd, rfl⟩
  · rw [h]
    simp only [if_true]
    exact ⟨_, _, hA.tell (by omega), c_tell0 hC, r_find0 hR⟩
  · rw [h]
    simp only [ne01, if_false]
    rcases wb_or b 0 100 with q | ⟨q, -⟩
    · rw [q]
      simp only [if_true]
      exact ⟨_, _, hA.tell (by omega), c_tell0 hC, r_find0 hR⟩
    · obtain ⟨k, hk, rfl⟩ := wb_nI (a := b) (h := 100) (by omega) q
      rw [q]
      simp only [ne01, if_false]
      rw [b_bit d (by omega)]
      obtain ⟨σ1, e1, g1, k1⟩ := c_sis (p2_lt (show d < 10 by omega)) (show k ≤ 200 by omega) (show 100 * N < 99000 by omega) hC hI
      obtain ⟨τ1, e2, g2, k2⟩ := r_sw (p2_lt (show d < 10 by omega)) (show k ≤ 200 by omega) hR hI
      rw [e1, fh_cb_s, j_bitCount (sd_lt hn), e2, fh_cb_s, r_bits (sd_lt hn)]
      exact ⟨_, A, hA.mono (by omega), ⟨σ1, rfl, g1, fun k hk => k1 k (by omega)⟩, ⟨τ1, rfl, g2, k2⟩⟩
theorem c_weakL {n T a : Nat} {A : fh_S} (ha : a ≤ 200) (hT : T < 99000) (hI : RI (A 45) n T) : ∀ (k i : Nat), i + k = n → ∀ fu : Nat, k < fu → ∀ (b m : Int32) (σ : fh_S), CR σ A →
    cE (fh_fx (ρ := Int32 → Int32 → Int32 → fh_S → Option (Int32 × fh_S)) (fun _ _ _ _ => none) (f_X4_weakest_B24 0 (nI a)) fu b m (nI i) σ) σ (nA A (kf_ (fun i => nI (pc_ (sd_ (A 45) n (2 ^ i) a))) k i b m)) (nV (kf_ (fun i => nI (pc_ (sd_ (A 45) n (2 ^ i) a))) k i b m)) := by
  have hn := hI.1
  intro k
  induction k with
  | zero =>
    intro i hi fu hfu b m σ hC
    have hsz : σ 1 9 = nI n := by rw [hC.1.1]; exact hI.2.1
    obtain ⟨f, rfl⟩ : ∃ f, fu = f + 1 := ⟨fu - 1, by omega⟩
    rw [fx_s, e_X4_weakest_B24]
    simp only [gr_0_0, gi_G9 fhG1, bd_s, hsz, cb_id]
    rw [if_pos (nI_le (by omega) (by omega))]
    exact c_n hC b
  | succ k ih =>
    intro i hi fu hfu b m σ hC
    have hsz : σ 1 9 = nI n := by rw [hC.1.1]; exact hI.2.1
    obtain ⟨f, rfl⟩ : ∃ f, fu = f + 1 := ⟨fu - 1, by omega⟩
    obtain ⟨σ1, e1, g1, k1⟩ := c_sis (p2_lt (show i < 10 by omega)) ha hT hC hI
    rw [fx_s, e_X4_weakest_B24]
    simp only [gr_0_0, gi_G9 fhG1, bd_s, hsz]
    rw [if_neg (nI_ge (by omega) (by omega)), b_bit i (by omega), e1, fh_cb_s, j_bitCount (sd_lt hn), fh_cb_s, jn_s]
    simp only [e_X4_weakest_J62, nI_1]
    unfold kf_
    by_cases q : nI (pc_ (sd_ (A 45) n (2 ^ i) a)) ≤ m
    · rw [if_pos q, if_pos q]
      exact (ih (i + 1) (by omega) f (by omega) b m σ1 g1).bk (fun k hk => k1 k (by omega))
    · rw [if_neg q, if_neg q]
      exact (ih (i + 1) (by omega) f (by omega) _ _ σ1 g1).bk (fun k hk => k1 k (by omega))
theorem r_weakL {n T a : Nat} {A : fh_S} (ha : a ≤ 200) (hI : RI (A 45) n T) : ∀ (k i : Nat), i + k = n → ∀ fu : Nat, k < fu → ∀ (b m : Int32) (σ : fh_S), RR σ A →
    rE (fh_fx (ρ := Int32 → Int32 → Int32 → fh_S → Option (Int32 × fh_S)) (fun _ _ _ _ => none) (f_X5_weakest_B24 44 (nI a)) fu b m (nI i) σ) σ (nA A (kf_ (fun i => nI (pc_ (sd_ (A 45) n (2 ^ i) a))) k i b m)) (nV (kf_ (fun i => nI (pc_ (sd_ (A 45) n (2 ^ i) a))) k i b m)) := by
  have hn := hI.1
  intro k
  induction k with
  | zero =>
    intro i hi fu hfu b m σ hR
    have hIt : RI (σ 45) n T := by rw [hR.1]; exact hI
    obtain ⟨f, rfl⟩ : ∃ f, fu = f + 1 := ⟨fu - 1, by omega⟩
    rw [fx_s, e_X5_weakest_B24]
    simp only [gr_44_0, bd_s, ld_45_1, hIt.2.1, cb_id]
    rw [if_pos (nI_le (by omega) (by omega))]
    exact r_n hR b
  | succ k ih =>
    intro i hi fu hfu b m σ hR
    have hIt : RI (σ 45) n T := by rw [hR.1]; exact hI
    obtain ⟨f, rfl⟩ : ∃ f, fu = f + 1 := ⟨fu - 1, by omega⟩
    obtain ⟨τ1, e2, g2, k2⟩ := r_sw (p2_lt (show i < 10 by omega)) ha hR hI
    rw [fx_s, e_X5_weakest_B24]
    simp only [gr_44_0, bd_s, ld_45_1, hIt.2.1]
    rw [if_neg (nI_ge (by omega) (by omega)), b_bit i (by omega), e2, fh_cb_s, r_bits (sd_lt hn), fh_cb_s, jn_s]
    simp only [e_X5_weakest_J61, j_max, fh_cb_s, nI_1]
    unfold kf_ mx_
    by_cases q : nI (pc_ (sd_ (A 45) n (2 ^ i) a)) ≤ m
    · rw [if_pos q, if_pos q, if_neg (Int32.not_lt.mpr q)]
      exact (ih (i + 1) (by omega) f (by omega) b m τ1 g2).bk k2
    · rw [if_neg q, if_neg q, if_pos (Int32.not_le.mp q)]
      exact (ih (i + 1) (by omega) f (by omega) _ _ τ1 g2).bk k2
theorem s_weakest (a : Int32) : fh_Stp (f_X4_weakest 0 a) (f_X5_weakest 44 a) := by
  apply fh_Stp.mk
  intro N A σ τ hN hA hC hR
  obtain ⟨n, hI⟩ := hA.1
  have hn := hI.1
  unfold f_X4_weakest f_X5_weakest
  simp only [ob_H, ob_M, c_isWithin, r_within, fh_cb_s, cb_id]
  rcases wb_or a 0 100 with q | ⟨q, -⟩
  · rw [q]
    simp only [if_true]
    exact ⟨_, _, hA.tell (by omega), c_tell0 hC, r_find0 hR⟩
  · obtain ⟨k, hk, rfl⟩ := wb_nI (a := a) (h := 100) (by omega) q
    rw [q]
    simp only [ne01, if_false]
    exact ⟨_, _, hA.n _, c_weakL (show k ≤ 200 by omega) (show 100 * N < 99000 by omega) hI n 0 (by omega) fh_fu (by unfold fh_fu; omega) (-1) (-1) σ hC, r_weakL (show k ≤ 200 by omega) hI n 0 (by omega) fh_fu (by unfold fh_fu; omega) (-1) (-1) τ hR⟩
