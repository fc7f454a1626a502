/-! ===== rounding ===== -/
def rd_ (a : Int32) : Int32 := if 0 ≤ a - a / 720 * 720 then a - a / 720 * 720 else a - a / 720 * 720 + 720
theorem td_facts (x : Int) : ∃ q t : Int, x.tdiv 720 = q ∧ x = 720 * q + t ∧ (0 ≤ x → 0 ≤ t ∧ t < 720) ∧ (x ≤ 0 → -720 < t ∧ t ≤ 0) ∧ (0 ≤ x → 0 ≤ q) ∧ (x ≤ 0 → q ≤ 0) := by
  refine ⟨x.tdiv 720, x - 720 * x.tdiv 720, rfl, by omega, ?_⟩
  rcases Int.le_total 0 x with h0 | h0
  · rw [Int.tdiv_eq_ediv_of_nonneg h0]
    omega
  · have e : x = -(-x) := by omega
    have e2 : x.tdiv 720 = -((-x) / 720) := by
      conv => lhs; rw [e, Int.neg_tdiv]
      rw [Int.tdiv_eq_ediv_of_nonneg (by omega)]
    rw [e2]
    omega
theorem rem_i (a : Int32) : ∃ q t : Int, (a - a / 720 * 720).toInt = t ∧ a.toInt = 720 * q + t ∧ (0 ≤ a.toInt → 0 ≤ t ∧ t < 720) ∧ (a.toInt ≤ 0 → -720 < t ∧ t ≤ 0) := by
  obtain ⟨q, t, h1, h2, h3, h4, h5, h6⟩ := td_facts a.toInt
  refine ⟨q, t, ?_, h2, h3, h4⟩
  have hb := a.toInt_lt
  have hb2 := a.le_toInt
  have ed : (a / 720).toInt = q := by
    rw [Int32.toInt_div_of_ne_right a 720 (by decide)]
    exact h1
  have em : (a / 720 * 720).toInt = q * 720 := by
    rw [Int32.toInt_mul, ed, show (720 : Int32).toInt = 720 from rfl, Int.bmod_eq_of_le] <;> omega
  rw [Int32.toInt_sub, em, Int.bmod_eq_of_le] <;> omega
theorem i32_nn {x : Int32} : 0 ≤ x ↔ 0 ≤ x.toInt := Int32.le_iff_toInt_le
theorem rd_i (a : Int32) : ∃ h : Nat, h < 720 ∧ rd_ a = nI h ∧ ∃ q : Int, a.toInt = 720 * q + h := by
  obtain ⟨q, t, e, h2, h3, h4⟩ := rem_i a
  have key : ∀ x : Int32, 0 ≤ x.toInt → x.toInt < 720 → x = nI x.toInt.toNat := by
    intro x h0 h1
    apply Int32.toInt_inj.mp
    rw [nI_toInt (by omega)]
    omega
  unfold rd_
  by_cases hc : 0 ≤ a - a / 720 * 720
  · have hc' := i32_nn.mp hc
    rw [e] at hc'
    rw [if_pos hc]
    have ht : t < 720 := by omega
    refine ⟨t.toNat, by omega, ?_, q, by omega⟩
    have := key (a - a / 720 * 720) (by omega) (by omega)
    rw [e] at this
    exact this
  · have hc' : t < 0 := by
      apply Int.not_le.mp
      intro z
      exact hc (i32_nn.mpr (by rw [e]; exact z))
    rw [if_neg hc]
    have e2 : (a - a / 720 * 720 + 720).toInt = t + 720 := by
      rw [sm_add (by omega) (by decide), e]; rfl
    refine ⟨(t + 720).toNat, by omega, ?_, q - 1, by omega⟩
    have := key (a - a / 720 * 720 + 720) (by omega) (by omega)
    rw [e2] at this
    exact this
theorem r_round {a : Int32} {σ : fh_S} : f_X5_round a σ = some (rd_ a, σ) := by
  unfold f_X5_round rd_
  split <;> rfl
theorem xor_nn (a : Int32) : 0 ≤ a ^^^ 720 ↔ 0 ≤ a := by
  have key : ∀ x : Int32, 0 ≤ x ↔ x.toBitVec.msb = false := by
    intro x
    rw [i32_nn, BitVec.msb_eq_toInt]
    show 0 ≤ x.toBitVec.toInt ↔ _
    simp
  rw [key, key, Int32.toBitVec_xor, BitVec.msb_xor]
  rw [show (720 : Int32).toBitVec.msb = false from by decide]
  simp
theorem c_round {a : Int32} {σ : fh_S} : f_X4_roundHour a σ = some (rd_ a, σ) := by
  unfold f_X4_roundHour f_J9_floorMod_7cf53 rd_
  rw [if_neg (by decide)]
  obtain ⟨q, t, e, h2, h3, h4⟩ := rem_i a
  by_cases ha : 0 ≤ a
  · have h5 := h3 (i32_nn.mp ha)
    rw [if_pos ((xor_nn a).mpr ha), if_pos (i32_nn.mpr (by rw [e]; omega)), fh_cb_s]
  · rw [if_neg (fun h => ha ((xor_nn a).mp h))]
    have h5 := h4 (by
      have : ¬ 0 ≤ a.toInt := fun z => ha (i32_nn.mpr z)
      omega)
    by_cases hz : a - a / 720 * 720 = 0
    · rw [if_pos hz, if_pos (by rw [hz]; decide), fh_cb_s]
    · rw [if_neg hz, if_neg, fh_cb_s]
      intro z
      have z' := i32_nn.mp z
      rw [e] at z'
      apply hz
      apply Int32.toInt_inj.mp
      rw [e, i_0]
      omega
/-! ===== the class's garden ===== -/
theorem GR.mv {g : Nat} {σ σ' : fh_S} {ρ : fh_Rw} (h : GR g σ ρ) (hk : ∀ k, g ≤ k → k < g + 8 → σ' k = σ k) : GR g σ' ρ := by
  obtain ⟨h1, h2, h3, h4, h5⟩ := h
  refine ⟨by rw [hk g (by omega) (by omega)]; exact h1, by rw [hk g (by omega) (by omega)]; exact h2, by rw [hk g (by omega) (by omega)]; exact h3, fun j hj => by rw [hk (g + 7) (by omega) (by omega)]; exact h4 j hj, fun f hf d hd => by rw [hk (g + 1 + f) (by omega) (by omega)]; exact h5 f hf d hd⟩
theorem GR.st {g : Nat} {σ : fh_S} {ρ : fh_Rw} (h : GR g σ ρ) {f d : Nat} (hf : f < 6) (hd : d < 10) (v : Int32) : GR g (fs σ (g + 1 + f) d v) (upd ρ (13 + 6 * d + f) v) := by
  obtain ⟨h1, h2, h3, h4, h5⟩ := h
  refine ⟨?_, ?_, ?_, fun j hj => ?_, fun f' hf' d' hd' => ?_⟩
  · rw [fs_o (by omega), pk_un (by omega)]; exact h1
  · rw [fs_o (by omega), pk_un (by omega)]; exact h2
  · rw [fs_o (by omega), pk_un (by omega)]; exact h3
  · rw [fs_o (by omega), pk_un (by omega)]; exact h4 j hj
  · by_cases e : f' = f ∧ d' = d
    · obtain ⟨rfl, rfl⟩ := e
      rw [fs_s, pk_us]
    · rw [pk_un (by omega), fs_at]
      by_cases e1 : f' = f
      · subst e1
        rw [if_pos rfl, if_neg (by omega)]
        exact h5 f' hf' d' hd'
      · rw [if_neg (by omega)]
        exact h5 f' hf' d' hd'
theorem RI.hour {ρ : fh_Rw} {n T : Nat} (h : RI ρ n T) {d : Nat} (hd : d < n) : ∃ h, h < 720 ∧ ρ (13 + 6 * d + 1) = nI h := (h.2.2.2.2 d hd).2.1
theorem RI.mast {ρ : fh_Rw} {n T : Nat} (h : RI ρ n T) {d : Nat} (hd : d < n) : ∃ m, m < n ∧ ρ (13 + 6 * d + 2) = nI m := (h.2.2.2.2 d hd).2.2.1
theorem RI.going {ρ : fh_Rw} {n T : Nat} (h : RI ρ n T) {d : Nat} (hd : d < n) : -99 ≤ (ρ (13 + 6 * d + 3)).toInt ∧ (ρ (13 + 6 * d + 3)).toInt ≤ 99 := (h.2.2.2.2 d hd).2.2.2.1
theorem RI.moss {ρ : fh_Rw} {n T : Nat} (h : RI ρ n T) {d : Nat} (hd : d < n) : ∃ m, m < 10 ∧ ρ (13 + 6 * d + 5) = nI m := (h.2.2.2.2 d hd).2.2.2.2.2
theorem c_paceBehind {g m n T : Nat} {σ : fh_S} {ρ : fh_Rw} {kd : Int32} (hg : fh_G g) (hR : GR g σ ρ) (hI : RI ρ n T) (hm : m < n) : f_X0_paceBehind g (nI m) kd σ = some (pk_ kd (ρ (13 + 6 * m + 3)) (ρ (13 + 6 * m + 4)) (ρ 0), σ) := by
  have hn := hI.1
  have hm10 : m < 10 := by omega
  unfold f_X0_paceBehind pk_
  rw [ob_G hg, gr_G3 hg, bd_s, ld_G4 hg hm10, bd_s, hR.f3 hm10]
  generalize ρ (13 + 6 * m + 3) = v
  by_cases k1 : kd = 1
  · simp only [k1, if_true, c_late, fh_cb_s]
  · by_cases k2 : kd = 2
    · simp [k2]
    · by_cases k3 : kd = 3
      · simp [k3]
      · by_cases k4 : kd = 4
        · subst k4
          simp only [gr_G4 hg, bd_s, ld_G5 hg hm10, jn_s, f_X0_paceBehind_J113, hR.f4 hm10]
          by_cases hs : ρ (13 + 6 * m + 4) = 1
          · simp [hs]
          · simp [hs]
        · by_cases k5 : kd = 5
          · subst k5
            simp only [gi_G10 hg, bd_s, jn_s, f_X0_paceBehind_J83, f_X0_paceBehind_J82, hR.2.1]
            by_cases ht : ρ 0 - ρ 0 / 2 * 2 = 1
            · by_cases hz : v = 0
              · simp [ht, hz]
              · simp [ht, hz]
            · simp [ht]
          · by_cases k6 : kd = 6
            · simp only [k6, c_late, fh_cb_s]
              simp
            · simp [k1, k2, k3, k4, k5, k6]
theorem c_paceJ {g d n T : Nat} {σ : fh_S} {ρ : fh_Rw} {v : Int32} (hg : fh_G g) (hR : GR g σ ρ) (hI : RI ρ n T) (hd : d < n) (hv : -1000 ≤ v.toInt ∧ v.toInt ≤ 1000) : f_X0_paceOf_J32 g (nI d) v σ = some (li_ (sl_ v (ρ (13 + 6 * d + 5))), σ) := by
  have hn := hI.1
  have hd10 : d < 10 := by omega
  obtain ⟨m, hm, em⟩ := hI.moss hd
  rw [← slc_eq hv (by rw [em, nI_toInt (by omega)]; omega)]
  unfold f_X0_paceOf_J32 slc_
  simp only [j_abs, fh_cb_s, gr_G5 hg, bd_s, ld_G6 hg hd10, j_max, j_min, hR.f5 hd10]
  split <;> rfl
theorem c_pace {g d n T : Nat} {σ : fh_S} {ρ : fh_Rw} (hg : fh_G g) (hR : GR g σ ρ) (hI : RI ρ n T) (hd : d < n) : f_X0_paceOf g (nI d) σ = some (pa_ ρ d, σ) := by
  have hn := hI.1
  have hd10 : d < 10 := by omega
  obtain ⟨m, hm, em⟩ := hI.mast hd
  unfold f_X0_paceOf pa_ pl_
  simp only [ob_G hg, gr_G2 hg, bd_s, ld_G3 hg hd10, jn_s, hR.f2 hd10, em, nI_clamp (show m < 2 ^ 31 by omega)]
  by_cases hmd : nI m = nI d
  · rw [if_pos hmd, if_pos hmd, gr_G3 hg, bd_s, ld_G4 hg hd10, bd_s, hR.f3 hd10]
    have hb := hI.going hd
    exact c_paceJ hg hR hI hd (by omega)
  · rw [if_neg hmd, if_neg hmd, gr_G0 hg, bd_s, ld_G1 hg hd10, bd_s, hR.f0 hd10, c_paceBehind hg hR hI hm, fh_cb_s]
    exact c_paceJ hg hR hI hd (pk_b (hI.going hm))
/-! ===== a tick ===== -/
def ng_ (ρ : fh_Rw) (d : Nat) : Int32 := if ρ (13 + 6 * d + 4) = 1 then 0 else pa_ ρ d
def tk_ (n : Nat) (ρ : fh_Rw) : fh_Rw := fun j => if j = 0 then ρ 0 + 1 else if 13 ≤ j ∧ j < 13 + 6 * n then (if (j - 13) % 6 = 3 then ng_ ρ ((j - 13) / 6) else if (j - 13) % 6 = 1 then rd_ (ρ j + ng_ ρ ((j - 13) / 6)) else ρ j) else ρ j
theorem tk_0 {n : Nat} {ρ : fh_Rw} : tk_ n ρ 0 = ρ 0 + 1 := rfl
theorem tk_lo {n j : Nat} {ρ : fh_Rw} (h0 : j ≠ 0) (h : j < 13) : tk_ n ρ j = ρ j := by
  unfold tk_; rw [if_neg h0, if_neg (by omega)]
theorem tk_hi {n j : Nat} {ρ : fh_Rw} (h : 13 + 6 * n ≤ j) : tk_ n ρ j = ρ j := by
  unfold tk_; rw [if_neg (by omega), if_neg (by omega)]
theorem tk_f {n d f : Nat} {ρ : fh_Rw} (hd : d < n) (hf : f < 6) : tk_ n ρ (13 + 6 * d + f) = if f = 3 then ng_ ρ d else if f = 1 then rd_ (ρ (13 + 6 * d + f) + ng_ ρ d) else ρ (13 + 6 * d + f) := by
  unfold tk_
  rw [if_neg (by omega), if_pos (by omega), show (13 + 6 * d + f - 13) % 6 = f by omega, show (13 + 6 * d + f - 13) / 6 = d by omega]
theorem ng_b (ρ : fh_Rw) (d : Nat) : -99 ≤ (ng_ ρ d).toInt ∧ (ng_ ρ d).toInt ≤ 99 := by
  unfold ng_
  split
  · decide
  · exact li_b _
theorem RI.tick {ρ : fh_Rw} {n T : Nat} (h : RI ρ n T) : RI (tk_ n ρ) n (T + 1) := by
  obtain ⟨hn, h1, ⟨t, ht, et⟩, hsp, hD⟩ := h
  refine ⟨hn, by rw [tk_lo (by omega) (by omega)]; exact h1, ⟨t + 1, by omega, by rw [tk_0, et, nI_1]⟩, fun j hj => by rw [tk_lo (by omega) (by omega)]; exact hsp j hj, fun d hd => ?_⟩
  obtain ⟨a0, a1, a2, a3, a4, a5⟩ := hD d hd
  obtain ⟨h, hh, eh, -⟩ := rd_i (ρ (13 + 6 * d + 1) + ng_ ρ d)
  rw [tk_f hd (show 0 < 6 by omega), tk_f hd (show 1 < 6 by omega), tk_f hd (show 2 < 6 by omega), tk_f hd (show 3 < 6 by omega), tk_f hd (show 4 < 6 by omega), tk_f hd (show 5 < 6 by omega)]
  simp only [show ¬ (0 = 3) by omega, show ¬ (0 = 1) by omega, show ¬ (1 = 3) by omega, show ¬ (2 = 3) by omega, show ¬ (2 = 1) by omega, show ¬ (4 = 3) by omega, show ¬ (4 = 1) by omega, show ¬ (5 = 3) by omega, show ¬ (5 = 1) by omega, if_true, if_false]
  exact ⟨a0, ⟨h, hh, eh⟩, a2, ng_b ρ d, a4, a5⟩
theorem c_turn {g d : Nat} {σ : fh_S} {v : Int32} (hg : fh_G g) (hd : d < 10) : f_X0_turn g (nI d) v σ = some ((), fs σ (g + 2) d (rd_ (σ (g + 2) d + v))) := by
  unfold f_X0_turn
  simp only [ob_G hg, gr_G1 hg, bd_s, ld_G2 hg hd, c_round, fh_cb_s, st_G2 hg hd]
theorem c_tick1 {g n T : Nat} {σ0 : fh_S} {ρ : fh_Rw} (hg : fh_G g) (hI : RI ρ n T) : ∀ (k i : Nat), i + k = n → ∀ fu : Nat, k < fu → ∀ σ, GR g σ ρ → (∀ j, j < i → σ (g + 8) j = ng_ ρ j) → (∀ a, a ≠ g + 8 → σ a = σ0 a) →
    ∃ σ', fh_fx (ρ := Int32 → fh_S → Option (Unit × fh_S)) (fun _ _ => none) (f_X0_passTick_B2 g) fu (nI i) σ = fh_fx (ρ := Int32 → fh_S → Option (Unit × fh_S)) (fun _ _ => none) (f_X0_passTick_B43 g) fh_fu 0 σ' ∧ GR g σ' ρ ∧ (∀ j, j < n → σ' (g + 8) j = ng_ ρ j) ∧ ∀ a, a ≠ g + 8 → σ' a = σ0 a := by
  have hn := hI.1
  intro k
  induction k with
  | zero =>
    intro i hi fu hfu σ hR hj ha
    obtain ⟨m, rfl⟩ : ∃ m, fu = m + 1 := ⟨fu - 1, by omega⟩
    refine ⟨σ, ?_, hR, fun j h => hj j (by omega), ha⟩
    rw [fx_s, e_X0_passTick_B2]
    simp only [gi_G9 hg, bd_s]
    rw [hR.1, hI.2.1, if_pos (nI_le (by omega) (by omega))]
  | succ k ih =>
    intro i hi fu hfu σ hR hj ha
    obtain ⟨m, rfl⟩ : ∃ m, fu = m + 1 := ⟨fu - 1, by omega⟩
    have hi10 : i < 10 := by omega
    rw [fx_s, e_X0_passTick_B2]
    simp only [gi_G9 hg, bd_s]
    rw [hR.1, hI.2.1, if_neg (nI_ge (by omega) (by omega)), gr_G7 hg, bd_s, gr_G4 hg, bd_s, ld_G5 hg hi10, bd_s, jn_s, hR.f4 hi10]
    have step : ∀ v, v = ng_ ρ i → ∃ σ', f_X0_passTick_J34 (g + 8) (nI i) (fh_fx (ρ := Int32 → fh_S → Option (Unit × fh_S)) (fun _ _ => none) (f_X0_passTick_B2 g) m) v σ = fh_fx (ρ := Int32 → fh_S → Option (Unit × fh_S)) (fun _ _ => none) (f_X0_passTick_B43 g) fh_fu 0 σ' ∧ GR g σ' ρ ∧ (∀ j, j < n → σ' (g + 8) j = ng_ ρ j) ∧ ∀ a, a ≠ g + 8 → σ' a = σ0 a := by
      intro v hv
      unfold f_X0_passTick_J34
      simp only [st_G8 hg hi10, bd_s, nI_1]
      refine ih (i + 1) (by omega) m (by omega) _ (hR.mv (fun k h1 h2 => fs_o (by omega))) (fun j h => ?_) (fun a h => by rw [fs_o h]; exact ha a h)
      by_cases e : j = i
      · subst e; rw [fs_s]; exact hv
      · rw [fs_ne e]; exact hj j (by omega)
    by_cases hs : ρ (13 + 6 * i + 4) = 1
    · rw [if_pos hs]
      exact step 0 (by unfold ng_; rw [if_pos hs])
    · rw [if_neg hs, c_pace hg hR hI (by omega), fh_cb_s]
      exact step _ (by unfold ng_; rw [if_neg hs])
theorem c_tick2 {g n T : Nat} {σ0 : fh_S} {ρ : fh_Rw} (hg : fh_G g) (hI : RI ρ n T) (hT : T < 99999) (hN : ∀ j, j < n → σ0 (g + 8) j = ng_ ρ j) (hR0 : GR g σ0 ρ) : ∀ (k i : Nat), i + k = n → ∀ fu : Nat, k < fu → ∀ σ, (∀ a, a ≠ g + 2 → a ≠ g + 4 → σ a = σ0 a) → (∀ d, d < 10 → σ (g + 4) d = if d < i then ng_ ρ d else σ0 (g + 4) d) → (∀ d, d < 10 → σ (g + 2) d = if d < i then rd_ (σ0 (g + 2) d + ng_ ρ d) else σ0 (g + 2) d) →
    ∃ σ', fh_fx (ρ := Int32 → fh_S → Option (Unit × fh_S)) (fun _ _ => none) (f_X0_passTick_B43 g) fu (nI i) σ = some ((), σ') ∧ GR g σ' (tk_ n ρ) ∧ ∀ a, ¬ (g ≤ a ∧ a < g + 10) → σ' a = σ0 a := by
  have hn := hI.1
  obtain ⟨t, ht, et⟩ := hI.2.2.1
  intro k
  induction k with
  | zero =>
    intro i hi fu hfu σ ha h4 h2
    obtain ⟨m, rfl⟩ : ∃ m, fu = m + 1 := ⟨fu - 1, by omega⟩
    rw [fx_s, e_X0_passTick_B43]
    have hsz : σ g 9 = nI n := by rw [ha g (by omega) (by omega), hR0.1]; exact hI.2.1
    have htk : σ g 10 = nI t := by rw [ha g (by omega) (by omega), hR0.2.1]; exact et
    simp only [gi_G9 hg, bd_s, hsz, gi_G10 hg, htk, j_min, fh_cb_s, pf_G10 hg]
    rw [if_pos (nI_le (by omega) (by omega))]
    have hmin : mn_ (nI t + 1) 99999 = nI (t + 1) := by
      unfold mn_
      rw [nI_1, show (99999 : Int32) = nI 99999 from rfl, if_neg (nI_nlt (by omega) (by omega))]
    rw [hmin]
    refine ⟨_, rfl, ⟨?_, ?_, ?_, fun j hj => ?_, fun f hf d hd => ?_⟩, fun a h => ?_⟩
    · rw [fs_ne (by omega), hsz, tk_lo (by omega) (by omega)]; exact hI.2.1.symm
    · rw [fs_s, tk_0, et, nI_1]
    · rw [fs_ne (by omega), tk_lo (by omega) (by omega), ha g (by omega) (by omega)]; exact hR0.2.2.1
    · rw [fs_o (by omega), tk_lo (by omega) (by omega), ha (g + 7) (by omega) (by omega)]; exact hR0.2.2.2.1 j hj
    · rw [fs_o (by omega)]
      have hr := hR0.2.2.2.2 f hf d hd
      by_cases hdn : d < n
      · rw [tk_f hdn hf]
        by_cases f3 : f = 3
        · subst f3
          rw [if_pos rfl, show g + 1 + 3 = g + 4 by omega, h4 d hd, if_pos (by omega)]
        · rw [if_neg f3]
          by_cases f1 : f = 1
          · subst f1
            rw [if_pos rfl, show g + 1 + 1 = g + 2 by omega, h2 d hd, if_pos (by omega), hR0.f1 hd]
          · rw [if_neg f1, ha _ (by omega) (by omega)]
            exact hr
      · rw [tk_hi (by omega)]
        by_cases f3 : f = 3
        · subst f3
          rw [show g + 1 + 3 = g + 4 by omega, h4 d hd, if_neg (by omega)]
          exact hr
        · by_cases f1 : f = 1
          · subst f1
            rw [show g + 1 + 1 = g + 2 by omega, h2 d hd, if_neg (by omega)]
            exact hr
          · rw [ha _ (by omega) (by omega)]
            exact hr
    · rw [fs_o (by omega)]
      exact ha a (by omega) (by omega)
  | succ k ih =>
    intro i hi fu hfu σ ha h4 h2
    obtain ⟨m, rfl⟩ : ∃ m, fu = m + 1 := ⟨fu - 1, by omega⟩
    have hi10 : i < 10 := by omega
    rw [fx_s, e_X0_passTick_B43]
    have hsz : σ g 9 = nI n := by rw [ha g (by omega) (by omega), hR0.1]; exact hI.2.1
    have h8 : σ (g + 8) i = ng_ ρ i := by rw [ha (g + 8) (by omega) (by omega)]; exact hN i (by omega)
    simp only [gi_G9 hg, bd_s, hsz]
    rw [if_neg (nI_ge (by omega) (by omega))]
    simp only [gr_G3 hg, bd_s, gr_G7 hg, ld_G8 hg hi10, h8, st_G4 hg hi10]
    rw [fs_o (show g + 8 ≠ g + 4 by omega), h8, c_turn hg hi10, fh_cb_s, nI_1, fs_o (show g + 2 ≠ g + 4 by omega)]
    refine ih (i + 1) (by omega) m (by omega) _ (fun a h1 h2 => by rw [fs_o h1, fs_o h2]; exact ha a h1 h2) (fun d hd => ?_) (fun d hd => ?_)
    · rw [fs_o (by omega), fs_at, if_pos rfl]
      by_cases e : d = i
      · subst e; rw [if_pos rfl, if_pos (by omega)]
      · rw [if_neg e, h4 d hd]
        by_cases q : d < i
        · rw [if_pos q, if_pos (by omega)]
        · rw [if_neg q, if_neg (by omega)]
    · rw [fs_at, if_pos rfl]
      by_cases e : d = i
      · subst e; rw [if_pos rfl, if_pos (by omega), h2 d hd, if_neg (by omega)]
      · rw [if_neg e, fs_o (by omega), h2 d hd]
        by_cases q : d < i
        · rw [if_pos q, if_pos (by omega)]
        · rw [if_neg q, if_neg (by omega)]
/-- the class's TICK -/
theorem c_tick {g n T : Nat} {σ : fh_S} {ρ : fh_Rw} (hg : fh_G g) (hR : GR g σ ρ) (hI : RI ρ n T) (hT : T < 99999) : ∃ σ', f_X0_passTick g σ = some ((), σ') ∧ GR g σ' (tk_ n ρ) ∧ ∀ a, ¬ (g ≤ a ∧ a < g + 10) → σ' a = σ a := by
  have hn := hI.1
  unfold f_X0_passTick
  rw [ob_G hg]
  obtain ⟨σ1, e1, hR1, hN1, ha1⟩ := c_tick1 (σ0 := σ) hg hI n 0 (by omega) fh_fu (by unfold fh_fu; omega) σ hR (fun j h => by omega) (fun a _ => rfl)
  obtain ⟨σ2, e2, hR2, ha2⟩ := c_tick2 hg hI hT hN1 hR1 n 0 (by omega) fh_fu (by unfold fh_fu; omega) σ1 (fun a _ _ => rfl) (fun d _ => by rw [if_neg (by omega)]) (fun d _ => by rw [if_neg (by omega)])
  exact ⟨σ2, e1.trans e2, hR2, fun a h => by rw [ha2 a h]; exact ha1 a (by omega)⟩
