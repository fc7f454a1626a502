/-! ===== count, status, odds ===== -/
def hc_ (ρ : fh_Rw) : Nat → Nat → Int32 → Int32
  | 0, _, a => a
  | k + 1, i, a => hc_ ρ k (i + 1) (if ρ (3 + i) < 0 then a else a + 1)
theorem c_heldL {σ : fh_S} {ρ : fh_Rw} (hR : GR 1 σ ρ) : ∀ (k i : Nat), i + k = 10 → ∀ fu : Nat, k < fu → ∀ a : Int32,
    fh_fx (ρ := Int32 → Int32 → fh_S → Option (Int32 × fh_S)) (fun _ _ _ => none) (f_X0_heldCount_B4 1) fu a (nI i) σ = some (hc_ ρ k i a, σ) := by
  intro k
  induction k with
  | zero =>
    intro i hi fu hfu a
    obtain ⟨f, rfl⟩ : ∃ f, fu = f + 1 := ⟨fu - 1, by omega⟩
    rw [fx_s, e_X0_heldCount_B4, show (10 : Int32) = nI 10 from rfl, if_pos (nI_le (by omega) (by omega))]
    rfl
  | succ k ih =>
    intro i hi fu hfu a
    obtain ⟨f, rfl⟩ : ∃ f, fu = f + 1 := ⟨fu - 1, by omega⟩
    rw [fx_s, e_X0_heldCount_B4, show (10 : Int32) = nI 10 from rfl, if_neg (nI_ge (by omega) (by omega)), gr_G6 fhG1, bd_s, ld_G7 fhG1 (by omega), bd_s, jn_s, hR.2.2.2.1 i (by omega)]
    unfold hc_
    by_cases q : ρ (3 + i) < 0
    · rw [if_pos q, if_pos q, e_X0_heldCount_J22, nI_1]
      exact ih (i + 1) (by omega) f (by omega) a
    · rw [if_neg q, if_neg q, e_X0_heldCount_J22, nI_1]
      exact ih (i + 1) (by omega) f (by omega) _
theorem r_heldL {σ : fh_S} : ∀ (k i : Nat), i + k = 10 → ∀ fu : Nat, k < fu → ∀ a : Int32,
    fh_fx (ρ := Int32 → Int32 → fh_S → Option (Int32 × fh_S)) (fun _ _ _ => none) (f_X5_count_B95 44) fu a (nI i) σ = some (hc_ (σ 45) k i a, σ) := by
  intro k
  induction k with
  | zero =>
    intro i hi fu hfu a
    obtain ⟨f, rfl⟩ : ∃ f, fu = f + 1 := ⟨fu - 1, by omega⟩
    rw [fx_s, e_X5_count_B95, show (10 : Int32) = nI 10 from rfl, if_pos (nI_le (by omega) (by omega))]
    rfl
  | succ k ih =>
    intro i hi fu hfu a
    obtain ⟨f, rfl⟩ : ∃ f, fu = f + 1 := ⟨fu - 1, by omega⟩
    rw [fx_s, e_X5_count_B95, show (10 : Int32) = nI 10 from rfl, if_neg (nI_ge (by omega) (by omega)), gr_44_0, bd_s, show (3 : Int32) = nI 3 from rfl, nI_add, ld_45 (by omega), bd_s, jn_s]
    unfold hc_
    by_cases q : σ 45 (3 + i) < 0
    · rw [if_pos q, if_neg (Int32.not_le.mpr q), e_X5_count_J118, nI_1, Int32.add_zero]
      exact ih (i + 1) (by omega) f (by omega) a
    · rw [if_neg q, if_pos (Int32.not_lt.mp q), e_X5_count_J118, nI_1]
      exact ih (i + 1) (by omega) f (by omega) _
theorem s_count (a : Int32) : fh_Stp (f_X4_count 0 a) (f_X5_count 44 a) := by
  apply fh_Stp.mk
  intro N A σ τ hN hA hC hR
  obtain ⟨n, hI⟩ := hA.1
  have hn := hI.1
  have hIt : RI (τ 45) n (100 * N) := by rw [hR.1]; exact hI
  have fin : ∀ (x y : Option (Int32 × fh_S)) (v : Int32), x = some (v, σ) → y = some (v, τ) → ∃ v' A', AI A' (N + 1) ∧ cE x σ A' v' ∧ rE y τ A' v' := fun x y v e1 e2 => ⟨v, A, hA.mono (by omega), ⟨σ, e1, hC, fun _ _ => rfl⟩, ⟨τ, e2, hR, fun _ _ => rfl⟩⟩
  unfold f_X4_count f_X5_count
  rw [ob_H, ob_M]
  by_cases h0 : a = 0
  · rw [if_pos h0, if_pos h0, gr_0_0, bd_s, gi_G10 fhG1, bd_s, gr_44_0, bd_s, ld_45_0, bd_s, hR.1, hC.1.2.1]
    exact fin _ _ _ rfl rfl
  rw [if_neg h0, if_neg h0]
  by_cases h1 : a = 1
  · rw [if_pos h1, if_pos h1, gr_0_0, bd_s, gi_G9 fhG1, bd_s, gr_44_0, bd_s, ld_45_1, bd_s, hR.1, hC.1.1]
    exact fin _ _ _ rfl rfl
  rw [if_neg h1, if_neg h1]
  by_cases h2 : a = 2
  · rw [if_pos h2, if_pos h2, gr_0_0, bd_s, c_stopped fhG1 hC.1 hI, fh_cb_s, j_bitCount (sw_lt hn), fh_cb_s, r_stoppedNow hIt, fh_cb_s, r_bits (sw_lt hn), fh_cb_s, hR.1]
    exact fin _ _ _ rfl rfl
  rw [if_neg h2, if_neg h2]
  by_cases h3 : a = 3
  · rw [if_pos h3, if_pos h3, gr_0_0, bd_s, c_rings hC.1 hI, fh_cb_s, r_rings hIt, fh_cb_s, hR.1]
    exact fin _ _ _ rfl rfl
  rw [if_neg h3, if_neg h3]
  by_cases h4 : a = 4
  · rw [if_pos h4, if_pos h4, gr_0_0, bd_s, bd_s, gr_G1 fhG1, bd_s, cb_id, cb_id]
    unfold f_X0_sumOf f_X5_sumOf
    rw [ob_G fhG1, ob_M]
    have e1 := c_sumL hC.1 hI (ar_G2 fhG1) (fun d hd => hC.1.f1 hd) n 0 (by omega) fh_fu (by unfold fh_fu; omega) 0
    have e2 := r_sumL hIt (show 1 < 6 by omega) n 0 (by omega) fh_fu (by unfold fh_fu; omega) 0
    rw [hR.1] at e2
    exact fin _ _ _ e1 e2
  rw [if_neg h4, if_neg h4]
  by_cases h5 : a = 5
  · rw [if_pos h5, if_pos h5, gr_0_3, bd_s, gi_31_1, bd_s, gi_44_7, bd_s, hC.2.2.2.2.1, hR.2.2.2.2.1]
    exact fin _ _ _ rfl rfl
  rw [if_neg h5, if_neg h5]
  by_cases h6 : a = 6
  · rw [if_pos h6, if_pos h6, gr_0_0, bd_s, gi_G11 fhG1, bd_s, gr_44_0, bd_s, ld_45_2, bd_s, hR.1, hC.1.2.2.1]
    exact fin _ _ _ rfl rfl
  rw [if_neg h6, if_neg h6]
  by_cases h7 : a = 7
  · rw [if_pos h7, if_pos h7, gr_0_0, bd_s, cb_id]
    unfold f_X0_heldCount
    rw [ob_G fhG1]
    have e1 := c_heldL hC.1 10 0 (by omega) fh_fu (by unfold fh_fu; omega) 0
    have e2 := r_heldL (σ := τ) 10 0 (by omega) fh_fu (by unfold fh_fu; omega) 0
    rw [hR.1] at e2
    exact fin _ _ _ e1 e2
  rw [if_neg h7, if_neg h7, cb_id, cb_id]
  exact ⟨_, _, hA.tell (by omega), c_tell0 hC, r_find0 hR⟩
/-! status -/
def s7_ (f : Nat → Int32) : Nat → Nat → Int32 → Int32
  | 0, _, a => a
  | k + 1, i, a => s7_ f k (i + 1) (a + f i)
theorem c_stL {σ : fh_S} : ∀ (k i : Nat), i + k = 7 → ∀ fu : Nat, k < fu → ∀ a : Int32,
    fh_fx (ρ := Int32 → Int32 → fh_S → Option (Int32 × fh_S)) (fun _ _ _ => none) (f_X4_status_B19 (nI 7) 43) fu a (nI i) σ = some (s7_ (σ 43) k i a, σ) := by
  intro k
  induction k with
  | zero =>
    intro i hi fu hfu a
    obtain ⟨f, rfl⟩ : ∃ f, fu = f + 1 := ⟨fu - 1, by omega⟩
    rw [fx_s, e_X4_status_B19, if_pos (nI_le (by omega) (by omega))]
    rfl
  | succ k ih =>
    intro i hi fu hfu a
    obtain ⟨f, rfl⟩ : ∃ f, fu = f + 1 := ⟨fu - 1, by omega⟩
    rw [fx_s, e_X4_status_B19, if_neg (nI_ge (by omega) (by omega)), ld_43 (by omega), bd_s, nI_1]
    exact ih (i + 1) (by omega) f (by omega) _
theorem ln_43 : fh_ln 43 = some (nI 7) := rfl
theorem wb_m1 {a : Int32} (h : ¬ a = -1) : wb a (-1) 6 = wb a 0 6 := by
  unfold wb
  have h' : a.toInt ≠ -1 := fun e => h (Int32.toInt_inj.mp e)
  have : (a < -1) ↔ (a < 0) := by
    rw [Int32.lt_iff_toInt_lt, Int32.lt_iff_toInt_lt, show (-1 : Int32).toInt = -1 from rfl, show (0 : Int32).toInt = 0 from rfl]
    omega
  simp only [this]
theorem s_status (a : Int32) : fh_Stp (f_X4_status 0 a) (f_X5_status 44 a) := by
  apply fh_Stp.mk
  intro N A σ τ hN hA hC hR
  unfold f_X4_status f_X5_status
  rw [ob_H, ob_M, r_within, fh_cb_s]
  by_cases h0 : a = -1
  · subst h0
    rw [if_pos rfl, show wb (-1) (-1) 6 = 1 from rfl, if_neg ne01, gr_0_6, bd_s, ln_43, bd_s, gr_44_4, bd_s, show (-1 : Int32) + 1 = nI 0 from rfl, ld_48 (by omega), bd_s]
    have e1 := c_stL (σ := σ) 7 0 (by omega) fh_fu (by unfold fh_fu; omega) 0
    have : s7_ (σ 43) 7 0 0 = A 48 0 := by
      show 0 + σ 43 0 + σ 43 1 + σ 43 2 + σ 43 3 + σ 43 4 + σ 43 5 + σ 43 6 = A 48 0
      have h := hC.2.2.2.1
      rw [h 0 (by omega), h 1 (by omega), h 2 (by omega), h 3 (by omega), h 4 (by omega), h 5 (by omega), h 6 (by omega), Int32.zero_add]
      exact hA.2.2.2.2.2.symm
    rw [this] at e1
    exact ⟨_, A, hA.mono (by omega), ⟨σ, e1, hC, fun _ _ => rfl⟩, ⟨τ, by rw [hR.2.2.2.1], hR, fun _ _ => rfl⟩⟩
  · rw [if_neg h0, c_isWithin, fh_cb_s, wb_m1 h0]
    rcases wb_or a 0 6 with q | ⟨q, -⟩
    · rw [q, if_pos rfl, if_pos rfl, cb_id, cb_id]
      exact ⟨_, _, hA.tell (by omega), c_tell0 hC, r_find0 hR⟩
    · obtain ⟨k, hk, rfl⟩ := wb_nI (a := a) (h := 6) (by omega) q
      rw [q, if_neg ne01, if_neg ne01, gr_0_6, bd_s, ld_43 (by omega), bd_s, gr_44_4, bd_s, nI_1, ld_48 (by omega), bd_s, hR.2.2.2.1, hC.2.2.2.1 k (by omega)]
      exact ⟨_, A, hA.mono (by omega), ⟨σ, rfl, hC, fun _ _ => rfl⟩, ⟨τ, rfl, hR, fun _ _ => rfl⟩⟩
/-! odds -/
def pw_ (x : Int64) : Nat → Int64 → Int64
  | 0, v => v
  | k + 1, v => pw_ x k (v * x)
theorem c_oddL {m : Nat} {x : Int32} {σ : fh_S} (hm : m ≤ 100) : ∀ (k i : Nat), i + k = m → ∀ fu : Nat, k < fu → ∀ v : Int64,
    fh_fx (ρ := Int64 → Int32 → fh_S → Option (Int64 × fh_S)) (fun _ _ _ => none) (f_X4_odds_B45 (nI m) x) fu v (nI i) σ = some (pw_ x.toInt64 k v, σ) := by
  intro k
  induction k with
  | zero =>
    intro i hi fu hfu a
    obtain ⟨f, rfl⟩ : ∃ f, fu = f + 1 := ⟨fu - 1, by omega⟩
    rw [fx_s, e_X4_odds_B45, if_pos (nI_le (by omega) (by omega))]
    rfl
  | succ k ih =>
    intro i hi fu hfu a
    obtain ⟨f, rfl⟩ : ∃ f, fu = f + 1 := ⟨fu - 1, by omega⟩
    rw [fx_s, e_X4_odds_B45, if_neg (nI_ge (by omega) (by omega)), nI_1]
    exact ih (i + 1) (by omega) f (by omega) _
theorem r_oddL {m : Nat} {x y : Int32} {σ : fh_S} (hm : m ≤ 100) (hy : 15 + y = x) : ∀ (k i : Nat), i + k = m → ∀ fu : Nat, k < fu → ∀ v : Int64,
    fh_fx (ρ := Int64 → Int32 → fh_S → Option (Int64 × fh_S)) (fun _ _ _ => none) (f_X5_odds_B32 (nI m) y) fu v (nI i) σ = some (pw_ x.toInt64 k v, σ) := by
  intro k
  induction k with
  | zero =>
    intro i hi fu hfu a
    obtain ⟨f, rfl⟩ : ∃ f, fu = f + 1 := ⟨fu - 1, by omega⟩
    rw [fx_s, e_X5_odds_B32, if_pos (nI_le (by omega) (by omega))]
    rfl
  | succ k ih =>
    intro i hi fu hfu a
    obtain ⟨f, rfl⟩ : ∃ f, fu = f + 1 := ⟨fu - 1, by omega⟩
    rw [fx_s, e_X5_odds_B32, if_neg (nI_ge (by omega) (by omega)), nI_1, hy]
    exact ih (i + 1) (by omega) f (by omega) _
theorem s_odds (a b : Int32) : fh_Stp (f_X4_odds 0 a b) (f_X5_odds 44 a b) := by
  apply fh_Stp.mk
  intro N A σ τ hN hA hC hR
  have bad : ∃ v' A', AI A' (N + 1) ∧ cE (f_X4_odds_J19 0 σ) σ A' v' ∧ rE (f_X5_odds_J19 44 τ) τ A' v' := by
    rw [e_X4_odds_J19, e_X5_odds_J19]
    obtain ⟨σ1, e1, c1, k1⟩ := c_tell0 hC
    obtain ⟨τ1, e2, c2, k2⟩ := r_find0 hR
    rw [e1, e2, fh_cb_s, fh_cb_s]
    exact ⟨_, _, hA.tell (by omega), ⟨σ1, rfl, c1, k1⟩, ⟨τ1, rfl, c2, k2⟩⟩
  unfold f_X4_odds f_X5_odds
  rw [ob_H, ob_M, c_isWithin, fh_cb_s, jn_s, r_within, fh_cb_s, jn_s]
  rcases wb_or a 0 14 with q | ⟨q, -⟩
  · rw [q, if_pos rfl, if_pos rfl]
    exact bad
  · obtain ⟨m, hm, rfl⟩ := wb_nI (a := a) (h := 14) (by omega) q
    rw [q, if_neg ne01, if_neg ne01, c_isWithin, fh_cb_s, r_within, fh_cb_s]
    rcases wb_or b 0 1 with w | ⟨w, -⟩
    · rw [w, if_pos rfl, if_pos rfl]
      exact bad
    · obtain ⟨j, hj, rfl⟩ := wb_nI (a := b) (h := 1) (by omega) w
      rw [w, if_neg ne01, if_neg ne01, jn_s]
      have fin : ∀ x : Int32, 15 + nI j = x → ∃ v' A', AI A' (N + 1) ∧ cE (f_X4_odds_J38 (nI m) x σ) σ A' v' ∧ rE (fh_fx (ρ := Int64 → Int32 → fh_S → Option (Int64 × fh_S)) (fun _ _ _ => none) (f_X5_odds_B32 (nI m) (nI j)) fh_fu (1 : Int64) 0 τ) τ A' v' := by
        intro x hx
        rw [e_X4_odds_J38]
        exact ⟨_, A, hA.mono (by omega), ⟨σ, c_oddL (by omega) m 0 (by omega) fh_fu (by unfold fh_fu; omega) 1, hC, fun _ _ => rfl⟩, ⟨τ, r_oddL (by omega) hx m 0 (by omega) fh_fu (by unfold fh_fu; omega) 1, hR, fun _ _ => rfl⟩⟩
      have : j = 0 ∨ j = 1 := by omega
      rcases this with rfl | rfl
      · rw [if_pos (show nI 0 = 0 from rfl)]
        exact fin 15 rfl
      · rw [if_neg (show ¬ nI 1 = 0 by decide)]
        exact fin 16 rfl
