/-! ===== sets of dials by a field ===== -/
theorem ms_succ {p : Nat → Bool} {n : Nat} : ms_ p (n + 1) = if p n = true then ms_ p n ||| 2 ^ n else ms_ p n := rfl
def sw_ (ρ : fh_Rw) (f : Nat) (v : Int32) (n : Nat) : Nat := ms_ (fun d => decide (ρ (13 + 6 * d + f) = v)) n
theorem c_whereL {g n k2 f : Nat} {v : Int32} {σ : fh_S} {ρ : fh_Rw} (hg : fh_G g) (hn : n ≤ 10) (hsz : σ g 9 = nI n) (har : fh_arr k2 = some 10) (hv : ∀ d, d < 10 → σ k2 d = ρ (13 + 6 * d + f)) : ∀ (k i : Nat), i + k = n → ∀ fu : Nat, k < fu →
    fh_fx (ρ := Int32 → Int32 → fh_S → Option (Int32 × fh_S)) (fun _ _ _ => none) (f_X0_setWhere_B5 g k2 v) fu (nI (sw_ ρ f v i)) (nI i) σ = some (nI (sw_ ρ f v n), σ) := by
  intro k
  induction k with
  | zero =>
    intro i hi fu hfu
    obtain ⟨m, rfl⟩ : ∃ m, fu = m + 1 := ⟨fu - 1, by omega⟩
    obtain rfl : i = n := by omega
    rw [fx_s, e_X0_setWhere_B5]
    simp only [gi_G9 hg, bd_s, hsz]
    rw [if_pos (nI_le (by omega) (by omega))]
  | succ k ih =>
    intro i hi fu hfu
    obtain ⟨m, rfl⟩ : ∃ m, fu = m + 1 := ⟨fu - 1, by omega⟩
    have := ih (i + 1) (by omega) m (by omega)
    unfold sw_ at this
    rw [ms_succ] at this
    unfold sw_
    rw [fx_s, e_X0_setWhere_B5]
    simp only [gi_G9 hg, bd_s, hsz]
    rw [if_neg (nI_ge (by omega) (by omega)), ld_ok har (by omega) (by omega), bd_s, jn_s, hv i (by omega)]
    simp only [e_X0_setWhere_J29, nI_1, ms_s (show i < 10 by omega)]
    by_cases q : ρ (13 + 6 * i + f) = v
    · rw [if_pos q]
      rw [if_pos (decide_eq_true q)] at this
      exact this
    · rw [if_neg q]
      rw [if_neg (by rw [decide_eq_true_iff]; exact q)] at this
      exact this
theorem c_where {g n T k2 f : Nat} {v : Int32} {σ : fh_S} {ρ : fh_Rw} (hg : fh_G g) (hR : GR g σ ρ) (hI : RI ρ n T) (har : fh_arr k2 = some 10) (hv : ∀ d, d < 10 → σ k2 d = ρ (13 + 6 * d + f)) : f_X0_setWhere g k2 v σ = some (nI (sw_ ρ f v n), σ) := by
  have hn := hI.1
  unfold f_X0_setWhere
  rw [ob_G hg]
  exact c_whereL hg hn (by rw [hR.1]; exact hI.2.1) har hv n 0 (by omega) fh_fu (by unfold fh_fu; omega)
theorem c_stopped {g n T : Nat} {σ : fh_S} {ρ : fh_Rw} (hg : fh_G g) (hR : GR g σ ρ) (hI : RI ρ n T) : f_X0_stoppedSet g σ = some (nI (sw_ ρ 4 1 n), σ) := by
  unfold f_X0_stoppedSet
  rw [ob_G hg, gr_G4 hg, bd_s, c_where hg hR hI (ar_G5 hg) (fun d hd => hR.f4 hd), fh_cb_s]
theorem c_still {g n T : Nat} {σ : fh_S} {ρ : fh_Rw} (hg : fh_G g) (hR : GR g σ ρ) (hI : RI ρ n T) : f_X0_stillSet g σ = some (nI (sw_ ρ 3 0 n), σ) := by
  unfold f_X0_stillSet
  rw [ob_G hg, gr_G3 hg, bd_s, c_where hg hR hI (ar_G4 hg) (fun d hd => hR.f3 hd), fh_cb_s]
theorem r_whoL {n T : Nat} {v : Int32} {σ : fh_S} (hI : RI (σ 45) n T) : ∀ (k i : Nat), i + k = n → ∀ fu : Nat, k < fu →
    fh_fx (ρ := Int32 → Int32 → fh_S → Option (Int32 × fh_S)) (fun _ _ _ => none) (f_X5_whoShow_B4 44 v) fu (nI (sw_ (σ 45) 1 v i)) (nI i) σ = some (nI (sw_ (σ 45) 1 v n), σ) := by
  have hn := hI.1
  intro k
  induction k with
  | zero =>
    intro i hi fu hfu
    obtain ⟨m, rfl⟩ : ∃ m, fu = m + 1 := ⟨fu - 1, by omega⟩
    obtain rfl : i = n := by omega
    rw [fx_s, e_X5_whoShow_B4]
    simp only [gr_44_0, bd_s, ld_45_1, hI.2.1]
    rw [if_pos (nI_le (by omega) (by omega))]
  | succ k ih =>
    intro i hi fu hfu
    obtain ⟨m, rfl⟩ : ∃ m, fu = m + 1 := ⟨fu - 1, by omega⟩
    have := ih (i + 1) (by omega) m (by omega)
    unfold sw_ at this
    rw [ms_succ] at this
    unfold sw_
    rw [fx_s, e_X5_whoShow_B4]
    simp only [gr_44_0, bd_s, ld_45_1, hI.2.1]
    rw [if_neg (nI_ge (by omega) (by omega)), r_is1 (by omega), fh_cb_s, jn_s]
    simp only [e_X5_whoShow_J32, nI_1, ms_s (show i < 10 by omega), or_0]
    by_cases q : σ 45 (13 + 6 * i + 1) = v
    · rw [if_pos q]
      rw [if_pos (decide_eq_true q)] at this
      exact this
    · rw [if_neg q]
      rw [if_neg (by rw [decide_eq_true_iff]; exact q)] at this
      exact this
theorem r_who {n T : Nat} {v : Int32} {σ : fh_S} (hI : RI (σ 45) n T) : f_X5_whoShow 44 v σ = some (nI (sw_ (σ 45) 1 v n), σ) := by
  have hn := hI.1
  unfold f_X5_whoShow
  rw [ob_M]
  exact r_whoL hI n 0 (by omega) fh_fu (by unfold fh_fu; omega)
theorem r_stoppedL {n T : Nat} {σ : fh_S} (hI : RI (σ 45) n T) : ∀ (k i : Nat), i + k = n → ∀ fu : Nat, k < fu →
    fh_fx (ρ := Int32 → Int32 → fh_S → Option (Int32 × fh_S)) (fun _ _ _ => none) (f_X5_stoppedNow_B4 44) fu (nI (sw_ (σ 45) 4 1 i)) (nI i) σ = some (nI (sw_ (σ 45) 4 1 n), σ) := by
  have hn := hI.1
  intro k
  induction k with
  | zero =>
    intro i hi fu hfu
    obtain ⟨m, rfl⟩ : ∃ m, fu = m + 1 := ⟨fu - 1, by omega⟩
    obtain rfl : i = n := by omega
    rw [fx_s, e_X5_stoppedNow_B4]
    simp only [gr_44_0, bd_s, ld_45_1, hI.2.1]
    rw [if_pos (nI_le (by omega) (by omega))]
  | succ k ih =>
    intro i hi fu hfu
    obtain ⟨m, rfl⟩ : ∃ m, fu = m + 1 := ⟨fu - 1, by omega⟩
    have := ih (i + 1) (by omega) m (by omega)
    unfold sw_ at this
    rw [ms_succ] at this
    unfold sw_
    rw [fx_s, e_X5_stoppedNow_B4]
    simp only [gr_44_0, bd_s, ld_45_1, hI.2.1]
    rw [if_neg (nI_ge (by omega) (by omega)), r_stopped (by omega), fh_cb_s, jn_s]
    simp only [e_X5_stoppedNow_J30, nI_1, ms_s (show i < 10 by omega), or_0]
    by_cases q : σ 45 (13 + 6 * i + 4) = 1
    · rw [if_pos q, if_neg (by decide)]
      rw [if_pos (decide_eq_true q)] at this
      exact this
    · rw [if_neg q, if_pos rfl]
      rw [if_neg (by rw [decide_eq_true_iff]; exact q)] at this
      exact this
theorem r_stoppedNow {n T : Nat} {σ : fh_S} (hI : RI (σ 45) n T) : f_X5_stoppedNow 44 σ = some (nI (sw_ (σ 45) 4 1 n), σ) := by
  have hn := hI.1
  unfold f_X5_stoppedNow
  rw [ob_M]
  exact r_stoppedL hI n 0 (by omega) fh_fu (by unfold fh_fu; omega)
theorem r_stillL {n T : Nat} {σ : fh_S} (hI : RI (σ 45) n T) : ∀ (k i : Nat), i + k = n → ∀ fu : Nat, k < fu →
    fh_fx (ρ := Int32 → Int32 → fh_S → Option (Int32 × fh_S)) (fun _ _ _ => none) (f_X5_stillNow_B4 44) fu (nI (sw_ (σ 45) 3 0 i)) (nI i) σ = some (nI (sw_ (σ 45) 3 0 n), σ) := by
  have hn := hI.1
  intro k
  induction k with
  | zero =>
    intro i hi fu hfu
    obtain ⟨m, rfl⟩ : ∃ m, fu = m + 1 := ⟨fu - 1, by omega⟩
    obtain rfl : i = n := by omega
    rw [fx_s, e_X5_stillNow_B4]
    simp only [gr_44_0, bd_s, ld_45_1, hI.2.1]
    rw [if_pos (nI_le (by omega) (by omega))]
  | succ k ih =>
    intro i hi fu hfu
    obtain ⟨m, rfl⟩ : ∃ m, fu = m + 1 := ⟨fu - 1, by omega⟩
    have := ih (i + 1) (by omega) m (by omega)
    unfold sw_ at this
    rw [ms_succ] at this
    unfold sw_
    rw [fx_s, e_X5_stillNow_B4]
    simp only [gr_44_0, bd_s, ld_45_1, hI.2.1]
    rw [if_neg (nI_ge (by omega) (by omega)), r_is3 (by omega), fh_cb_s, jn_s]
    simp only [e_X5_stillNow_J31, nI_1, ms_s (show i < 10 by omega), or_0]
    by_cases q : σ 45 (13 + 6 * i + 3) = 0
    · rw [if_pos q]
      rw [if_pos (decide_eq_true q)] at this
      exact this
    · rw [if_neg q]
      rw [if_neg (by rw [decide_eq_true_iff]; exact q)] at this
      exact this
theorem r_stillNow {n T : Nat} {σ : fh_S} (hI : RI (σ 45) n T) : f_X5_stillNow 44 σ = some (nI (sw_ (σ 45) 3 0 n), σ) := by
  have hn := hI.1
  unfold f_X5_stillNow
  rw [ob_M]
  exact r_stillL hI n 0 (by omega) fh_fu (by unfold fh_fu; omega)
def ow_ (ρ : fh_Rw) (n : Nat) : Nat := ms_ (fun d => decide (ρ (13 + 6 * d + 2) = nI d)) n
theorem c_ownL {n T : Nat} {σ : fh_S} {ρ : fh_Rw} (hR : GR 1 σ ρ) (hI : RI ρ n T) : ∀ (k i : Nat), i + k = n → ∀ fu : Nat, k < fu →
    fh_fx (ρ := Int32 → Int32 → fh_S → Option (Int32 × fh_S)) (fun _ _ _ => none) (f_X0_ownMasterSet_B4 1) fu (nI (ow_ ρ i)) (nI i) σ = some (nI (ow_ ρ n), σ) := by
  have hn := hI.1
  have hsz : σ 1 9 = nI n := by rw [hR.1]; exact hI.2.1
  intro k
  induction k with
  | zero =>
    intro i hi fu hfu
    obtain ⟨m, rfl⟩ : ∃ m, fu = m + 1 := ⟨fu - 1, by omega⟩
    obtain rfl : i = n := by omega
    rw [fx_s, e_X0_ownMasterSet_B4]
    simp only [gi_G9 fhG1, bd_s, hsz]
    rw [if_pos (nI_le (by omega) (by omega))]
  | succ k ih =>
    intro i hi fu hfu
    obtain ⟨m, rfl⟩ : ∃ m, fu = m + 1 := ⟨fu - 1, by omega⟩
    have := ih (i + 1) (by omega) m (by omega)
    unfold ow_ at this
    rw [ms_succ] at this
    unfold ow_
    rw [fx_s, e_X0_ownMasterSet_B4]
    simp only [gi_G9 fhG1, bd_s, hsz]
    rw [if_neg (nI_ge (by omega) (by omega)), gr_G2 fhG1, bd_s, ld_G3 fhG1 (by omega), bd_s, jn_s, hR.f2 (by omega)]
    simp only [e_X0_ownMasterSet_J28, nI_1, ms_s (show i < 10 by omega)]
    by_cases q : ρ (13 + 6 * i + 2) = nI i
    · rw [if_pos q]
      rw [if_pos (decide_eq_true q)] at this
      exact this
    · rw [if_neg q]
      rw [if_neg (by rw [decide_eq_true_iff]; exact q)] at this
      exact this
theorem r_ownL {n T : Nat} {σ : fh_S} (hI : RI (σ 45) n T) : ∀ (k i : Nat), i + k = n → ∀ fu : Nat, k < fu →
    fh_fx (ρ := Int32 → Int32 → fh_S → Option (Int32 × fh_S)) (fun _ _ _ => none) (f_X5_ownNow_B4 44) fu (nI (ow_ (σ 45) i)) (nI i) σ = some (nI (ow_ (σ 45) n), σ) := by
  have hn := hI.1
  intro k
  induction k with
  | zero =>
    intro i hi fu hfu
    obtain ⟨m, rfl⟩ : ∃ m, fu = m + 1 := ⟨fu - 1, by omega⟩
    obtain rfl : i = n := by omega
    rw [fx_s, e_X5_ownNow_B4]
    simp only [gr_44_0, bd_s, ld_45_1, hI.2.1]
    rw [if_pos (nI_le (by omega) (by omega))]
  | succ k ih =>
    intro i hi fu hfu
    obtain ⟨m, rfl⟩ : ∃ m, fu = m + 1 := ⟨fu - 1, by omega⟩
    have := ih (i + 1) (by omega) m (by omega)
    unfold ow_ at this
    rw [ms_succ] at this
    unfold ow_
    rw [fx_s, e_X5_ownNow_B4]
    simp only [gr_44_0, bd_s, ld_45_1, hI.2.1]
    rw [if_neg (nI_ge (by omega) (by omega)), r_is2 (by omega), fh_cb_s, jn_s]
    simp only [e_X5_ownNow_J32, nI_1, ms_s (show i < 10 by omega), or_0]
    by_cases q : σ 45 (13 + 6 * i + 2) = nI i
    · rw [if_pos q]
      rw [if_pos (decide_eq_true q)] at this
      exact this
    · rw [if_neg q]
      rw [if_neg (by rw [decide_eq_true_iff]; exact q)] at this
      exact this
/-! sums -/
def su_ (ρ : fh_Rw) (f : Nat) : Nat → Nat → Int32 → Int32
  | 0, _, a => a
  | k + 1, i, a => su_ ρ f k (i + 1) (a + ρ (13 + 6 * i + f))
theorem c_sumL {n T k2 f : Nat} {σ : fh_S} {ρ : fh_Rw} (hR : GR 1 σ ρ) (hI : RI ρ n T) (har : fh_arr k2 = some 10) (hv : ∀ d, d < 10 → σ k2 d = ρ (13 + 6 * d + f)) : ∀ (k i : Nat), i + k = n → ∀ fu : Nat, k < fu → ∀ a : Int32,
    fh_fx (ρ := Int32 → Int32 → fh_S → Option (Int32 × fh_S)) (fun _ _ _ => none) (f_X0_sumOf_B4 1 k2) fu a (nI i) σ = some (su_ ρ f k i a, σ) := by
  have hn := hI.1
  have hsz : σ 1 9 = nI n := by rw [hR.1]; exact hI.2.1
  intro k
  induction k with
  | zero =>
    intro i hi fu hfu a
    obtain ⟨m, rfl⟩ : ∃ m, fu = m + 1 := ⟨fu - 1, by omega⟩
    rw [fx_s, e_X0_sumOf_B4]
    simp only [gi_G9 fhG1, bd_s, hsz]
    rw [if_pos (nI_le (by omega) (by omega))]
    rfl
  | succ k ih =>
    intro i hi fu hfu a
    obtain ⟨m, rfl⟩ : ∃ m, fu = m + 1 := ⟨fu - 1, by omega⟩
    rw [fx_s, e_X0_sumOf_B4]
    simp only [gi_G9 fhG1, bd_s, hsz]
    rw [if_neg (nI_ge (by omega) (by omega)), ld_ok har (by omega) (by omega), bd_s, hv i (by omega), nI_1]
    exact ih (i + 1) (by omega) m (by omega) _
theorem r_sumL {n T f : Nat} {σ : fh_S} (hI : RI (σ 45) n T) (hf : f < 6) : ∀ (k i : Nat), i + k = n → ∀ fu : Nat, k < fu → ∀ a : Int32,
    fh_fx (ρ := Int32 → Int32 → fh_S → Option (Int32 × fh_S)) (fun _ _ _ => none) (f_X5_sumOf_B4 44 (nI f)) fu a (nI i) σ = some (su_ (σ 45) f k i a, σ) := by
  have hn := hI.1
  intro k
  induction k with
  | zero =>
    intro i hi fu hfu a
    obtain ⟨m, rfl⟩ : ∃ m, fu = m + 1 := ⟨fu - 1, by omega⟩
    rw [fx_s, e_X5_sumOf_B4]
    simp only [gr_44_0, bd_s, ld_45_1, hI.2.1]
    rw [if_pos (nI_le (by omega) (by omega))]
    rfl
  | succ k ih =>
    intro i hi fu hfu a
    obtain ⟨m, rfl⟩ : ∃ m, fu = m + 1 := ⟨fu - 1, by omega⟩
    rw [fx_s, e_X5_sumOf_B4]
    simp only [gr_44_0, bd_s, ld_45_1, hI.2.1]
    rw [if_neg (nI_ge (by omega) (by omega)), r_isf (by omega) hf, fh_cb_s, nI_1]
    exact ih (i + 1) (by omega) m (by omega) _
/-! counts of bits -/
theorem ms_lt2 {p : Nat → Bool} : ∀ {n : Nat}, ms_ p n < 2 ^ n
  | 0 => by unfold ms_; decide
  | n + 1 => by
    unfold ms_
    have := ms_lt2 (p := p) (n := n)
    have h2 : 2 ^ n < 2 ^ (n + 1) := Nat.pow_lt_pow_right (by omega) (by omega)
    split
    · exact Nat.or_lt_two_pow (by omega) h2
    · omega
theorem pc_or : ∀ n, n < 10 → ∀ s, s < 1024 → s < 2 ^ n → pc_ (s ||| 2 ^ n) = pc_ s + 1 := by decide +kernel
theorem pc_pos : ∀ i, i < 10 → ∀ s, s < 1024 → s.testBit i = true → 0 < pc_ s := by decide +kernel
def cp_ (p : Nat → Bool) : Nat → Nat
  | 0 => 0
  | n + 1 => cp_ p n + (if p n = true then 1 else 0)
theorem pc_ms {p : Nat → Bool} : ∀ {n : Nat}, n ≤ 10 → pc_ (ms_ p n) = cp_ p n
  | 0, _ => by unfold ms_ cp_; decide
  | n + 1, h => by
    unfold ms_ cp_
    split
    · rw [pc_or n (by omega) _ (ms_lt (by omega)) ms_lt2, pc_ms (by omega)]
    · exact pc_ms (by omega)
theorem cp_le {p : Nat → Bool} : ∀ n, cp_ p n ≤ n
  | 0 => Nat.le_refl 0
  | n + 1 => by
    unfold cp_
    have := cp_le (p := p) n
    split <;> omega
theorem cp_all {p : Nat → Bool} : ∀ n, (cp_ p n = n ↔ ∀ d, d < n → p d = true)
  | 0 => by simp [cp_]
  | n + 1 => by
    unfold cp_
    have h1 := cp_le (p := p) n
    have ih := cp_all (p := p) n
    constructor
    · intro h d hd
      split at h
      · rename_i q
        by_cases e : d = n
        · subst e; exact q
        · exact ih.mp (by omega) d (by omega)
      · omega
    · intro h
      rw [if_pos (h n (by omega)), ih.mpr (fun d hd => h d (by omega))]
