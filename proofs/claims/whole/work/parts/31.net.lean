/-! ===== the net ===== -/
theorem s_way (a : Int32) : fh_Stp (f_X4_way 0 a) (f_X5_way 44 a) := by
  apply fh_Stp.mk
  intro N A σ τ hN hA hC hR
  obtain ⟨n, hI⟩ := hA.1
  have hn := hI.1
  have hIt : RI (τ 45) n (100 * N) := by rw [hR.1]; exact hI
  have hsz : σ 1 9 = nI n := by rw [hC.1.1]; exact hI.2.1
  unfold f_X4_way f_X5_way
  simp only [ob_H, ob_M, gr_0_0, bd_s, r_isDial (show n ≤ 1000 by omega) hIt.2.1, c_has fhG1 hsz, fh_cb_s, cb_id]
  rcases db_or a (show n ≤ 1000 by omega) with h | ⟨h, d, hd, rfl⟩
  · rw [h]
    simp only [if_true]
    exact ⟨_, _, hA.tell (by omega), c_tell0 hC, r_find0 hR⟩
  · rw [h]
    simp only [ne01, if_false]
    rw [c_way fhG1 hC.1 hI hd, r_way hIt hd, hR.1]
    exact ⟨_, A, hA.mono (by omega), ⟨σ, rfl, hC, fun _ _ => rfl⟩, ⟨τ, rfl, hR, fun _ _ => rfl⟩⟩
theorem s_ring (a : Int32) : fh_Stp (f_X4_ring 0 a) (f_X5_ring 44 a) := by
  apply fh_Stp.mk
  intro N A σ τ hN hA hC hR
  obtain ⟨n, hI⟩ := hA.1
  have hn := hI.1
  have hIt : RI (τ 45) n (100 * N) := by rw [hR.1]; exact hI
  have hsz : σ 1 9 = nI n := by rw [hC.1.1]; exact hI.2.1
  unfold f_X4_ring f_X5_ring
  simp only [ob_H, ob_M, gr_0_0, bd_s, r_isDial (show n ≤ 1000 by omega) hIt.2.1, c_has fhG1 hsz, fh_cb_s, cb_id]
  rcases db_or a (show n ≤ 1000 by omega) with h | ⟨h, d, hd, rfl⟩
  · rw [h]
    simp only [if_true]
    exact ⟨_, _, hA.tell (by omega), c_tell0 hC, r_find0 hR⟩
  · rw [h]
    simp only [ne01, if_false]
    rw [c_ring fhG1 hC.1 hI hd, r_ring hIt hd, hR.1]
    exact ⟨_, A, hA.mono (by omega), ⟨σ, rfl, hC, fun _ _ => rfl⟩, ⟨τ, rfl, hR, fun _ _ => rfl⟩⟩
/-! the lowest bit -/
def nz_ (a : Int32) : Int32 := match f_J6_numberOfTrailingZeros_0f7a4 a (fun _ _ => 0) with
  | some q => q.1
  | none => 0
theorem j_nz {a : Int32} {σ : fh_S} : f_J6_numberOfTrailingZeros_0f7a4 a σ = some (nz_ a, σ) := by
  unfold nz_ f_J6_numberOfTrailingZeros_0f7a4
  simp only [jn_s, e_J6_numberOfTrailingZeros_0f7a4_J34, e_J6_numberOfTrailingZeros_0f7a4_J49, e_J6_numberOfTrailingZeros_0f7a4_J62, e_J6_numberOfTrailingZeros_0f7a4_J74]
  by_cases h0 : 0 < (a ^^^ -1) &&& (a - 1)
  · simp only [h0, if_true]
    by_cases h1 : (a ^^^ -1) &&& (a - 1) ≤ 65536 <;> simp only [h1, if_true, if_false] <;> (split <;> split <;> split <;> rfl)
  · simp only [h0, if_false]
theorem c_lowest {a : Int32} {σ : fh_S} : f_X4_lowestOf a σ = some (nz_ a, σ) := by
  unfold f_X4_lowestOf
  rw [cb_id, j_nz]
theorem nz_ring : ∀ d, d < 10 → ∀ s, s < 1024 → (nz_ (nI s) = nI d ↔ (s.testBit d = true ∧ (nI s &&& (((1 : Int32) <<< (nI d &&& 31)) - 1)) = 0)) := by decide +kernel
def ct_ (p : Nat → Bool) : Nat → Nat → Int32 → Int32
  | 0, _, a => a
  | k + 1, i, a => ct_ p k (i + 1) (if p i = true then a + 1 else a)
theorem rg_lt {μ : Nat → Nat} {n d : Nat} (hn : n ≤ 10) (hμ : ∀ k, k < n → μ k < n) (hd : d < n) : rg_ μ n d < 1024 := wy_lt hn hμ (it_lt hμ hd n) n
def rp_ (μ : Nat → Nat) (n : Nat) (d : Nat) : Bool := decide (nz_ (nI (rg_ μ n d)) = nI d)
theorem c_ringsL {n T : Nat} {σ : fh_S} {ρ : fh_Rw} (hR : GR 1 σ ρ) (hI : RI ρ n T) : ∀ (k i : Nat), i + k = n → ∀ fu : Nat, k < fu → ∀ a : Int32,
    fh_fx (ρ := Int32 → Int32 → fh_S → Option (Int32 × fh_S)) (fun _ _ _ => none) (f_X0_ringCount_B4 1) fu a (nI i) σ = some (ct_ (rp_ (mu_ ρ) n) k i a, σ) := by
  have hn := hI.1
  have hsz : σ 1 9 = nI n := by rw [hR.1]; exact hI.2.1
  intro k
  induction k with
  | zero =>
    intro i hi fu hfu a
    obtain ⟨f, rfl⟩ : ∃ f, fu = f + 1 := ⟨fu - 1, by omega⟩
    rw [fx_s, e_X0_ringCount_B4]
    simp only [gi_G9 fhG1, bd_s, hsz]
    rw [if_pos (nI_le (by omega) (by omega))]
    rfl
  | succ k ih =>
    intro i hi fu hfu a
    obtain ⟨f, rfl⟩ : ∃ f, fu = f + 1 := ⟨fu - 1, by omega⟩
    rw [fx_s, e_X0_ringCount_B4]
    simp only [gi_G9 fhG1, bd_s, hsz]
    rw [if_neg (nI_ge (by omega) (by omega)), c_ring fhG1 hR hI (by omega), fh_cb_s, c_lowest, fh_cb_s, jn_s]
    simp only [e_X0_ringCount_J27, nI_1]
    unfold ct_ rp_
    by_cases q : nz_ (nI (rg_ (mu_ ρ) n i)) = nI i
    · rw [if_pos q, if_pos (decide_eq_true q)]
      exact ih (i + 1) (by omega) f (by omega) _
    · rw [if_neg q, if_neg (by rw [decide_eq_true_iff]; exact q)]
      exact ih (i + 1) (by omega) f (by omega) _
theorem c_rings {n T : Nat} {σ : fh_S} {ρ : fh_Rw} (hR : GR 1 σ ρ) (hI : RI ρ n T) : f_X0_ringCount 1 σ = some (ct_ (rp_ (mu_ ρ) n) n 0 0, σ) := by
  have hn := hI.1
  unfold f_X0_ringCount
  rw [ob_G fhG1]
  exact c_ringsL hR hI n 0 (by omega) fh_fu (by unfold fh_fu; omega) 0
theorem r_ringsL {n T : Nat} {σ : fh_S} (hI : RI (σ 45) n T) : ∀ (k i : Nat), i + k = n → ∀ fu : Nat, k < fu → ∀ a : Int32,
    fh_fx (ρ := Int32 → Int32 → fh_S → Option (Int32 × fh_S)) (fun _ _ _ => none) (f_X5_manyRings_B4 44) fu a (nI i) σ = some (ct_ (rp_ (mu_ (σ 45)) n) k i a, σ) := by
  have hn := hI.1
  intro k
  induction k with
  | zero =>
    intro i hi fu hfu a
    obtain ⟨f, rfl⟩ : ∃ f, fu = f + 1 := ⟨fu - 1, by omega⟩
    rw [fx_s, e_X5_manyRings_B4]
    simp only [gr_44_0, bd_s, ld_45_1, hI.2.1]
    rw [if_pos (nI_le (by omega) (by omega))]
    rfl
  | succ k ih =>
    intro i hi fu hfu a
    obtain ⟨f, rfl⟩ : ∃ f, fu = f + 1 := ⟨fu - 1, by omega⟩
    have hlt := rg_lt hn hI.mu (show i < n by omega)
    rw [fx_s, e_X5_manyRings_B4]
    simp only [gr_44_0, bd_s, ld_45_1, hI.2.1]
    rw [if_neg (nI_ge (by omega) (by omega)), r_ring hI (by omega), fh_cb_s, r_hasb hlt (by omega), fh_cb_s]
    simp only [jn_s, e_X5_manyRings_J43, e_X5_manyRings_J44, nI_1]
    have key := nz_ring i (by omega) _ hlt
    unfold ct_ rp_
    by_cases q1 : (rg_ (mu_ (σ 45)) n i).testBit i = true
    · rw [if_pos q1, if_neg (by decide)]
      by_cases q2 : (nI (rg_ (mu_ (σ 45)) n i) &&& (((1 : Int32) <<< (nI i &&& 31)) - 1)) = 0
      · rw [if_pos q2, if_pos (decide_eq_true (key.mpr ⟨q1, q2⟩))]
        exact ih (i + 1) (by omega) f (by omega) _
      · rw [if_neg q2, if_neg (by rw [decide_eq_true_iff, key]; exact fun z => q2 z.2), Int32.add_zero]
        exact ih (i + 1) (by omega) f (by omega) _
    · rw [if_neg q1, if_pos rfl, if_neg (by rw [decide_eq_true_iff, key]; exact fun z => q1 z.1), Int32.add_zero]
      exact ih (i + 1) (by omega) f (by omega) _
theorem r_rings {n T : Nat} {σ : fh_S} (hI : RI (σ 45) n T) : f_X5_manyRings 44 σ = some (ct_ (rp_ (mu_ (σ 45)) n) n 0 0, σ) := by
  have hn := hI.1
  unfold f_X5_manyRings
  rw [ob_M]
  exact r_ringsL hI n 0 (by omega) fh_fu (by unfold fh_fu; omega) 0
theorem s_rings : fh_Stp (f_X4_rings 0) (f_X5_rings 44) := by
  apply fh_Stp.mk
  intro N A σ τ hN hA hC hR
  obtain ⟨n, hI⟩ := hA.1
  have hIt : RI (τ 45) n (100 * N) := by rw [hR.1]; exact hI
  unfold f_X4_rings f_X5_rings
  simp only [ob_H, ob_M, gr_0_0, bd_s, cb_id]
  rw [c_rings hC.1 hI, r_rings hIt, hR.1]
  exact ⟨_, A, hA.mono (by omega), ⟨σ, rfl, hC, fun _ _ => rfl⟩, ⟨τ, rfl, hR, fun _ _ => rfl⟩⟩
/-! before -/
def bf_ (s : Nat) (m : Nat → Nat) : Nat → Nat → Nat
  | 0, t => t
  | k + 1, t => if s.testBit (m t) = true then t else bf_ s m k (t + 1)
theorem c_beforeL {n T d : Nat} {σ : fh_S} {ρ : fh_Rw} (hR : GR 1 σ ρ) (hI : RI ρ n T) (hd : d < n) : ∀ (k t : Nat), t + k = n → ∀ fu : Nat, k < fu →
    fh_fx (ρ := Int32 → Int32 → Int32 → fh_S → Option (Int32 × fh_S)) (fun _ _ _ _ => none) (f_X0_stepsToRing_B14 1 (nI (rg_ (mu_ ρ) n d))) fu (nI (it_ (mu_ ρ) t d)) (nI t) (nI t) σ = some (nI (bf_ (rg_ (mu_ ρ) n d) (fun t => it_ (mu_ ρ) t d) k t), σ) := by
  have hn := hI.1
  have hsz : σ 1 9 = nI n := by rw [hR.1]; exact hI.2.1
  have hlt := rg_lt hn hI.mu hd
  intro k
  induction k with
  | zero =>
    intro t ht fu hfu
    obtain ⟨f, rfl⟩ : ∃ f, fu = f + 1 := ⟨fu - 1, by omega⟩
    rw [fx_s, e_X0_stepsToRing_B14]
    simp only [gi_G9 fhG1, bd_s, hsz]
    rw [if_pos (nI_le (by omega) (by omega))]
    rfl
  | succ k ih =>
    intro t ht fu hfu
    obtain ⟨f, rfl⟩ : ∃ f, fu = f + 1 := ⟨fu - 1, by omega⟩
    have hm := it_lt hI.mu hd t
    rw [fx_s, e_X0_stepsToRing_B14]
    simp only [gi_G9 fhG1, bd_s, hsz]
    rw [if_neg (nI_ge (by omega) (by omega)), c_isIn hlt (by omega), fh_cb_s]
    unfold bf_
    by_cases q : (rg_ (mu_ ρ) n d).testBit (it_ (mu_ ρ) t d) = true
    · rw [if_pos q, if_neg (by decide), if_pos q]
    · rw [if_neg q, if_pos rfl, if_neg q, gr_G2 fhG1, bd_s, ld_G3 fhG1 (by omega), bd_s, hR.f2 (by omega), hI.mue hm, nI_1]
      exact ih (t + 1) (by omega) f (by omega)
theorem rg_in {μ : Nat → Nat} {n d : Nat} (hμ : ∀ k, k < n → μ k < n) (hd : d < n) : (rg_ μ n d).testBit (it_ μ n d) = true := by
  obtain ⟨p, hp, e⟩ := it_per hμ hd
  obtain ⟨j, h1, h2, h3⟩ := wy_all hμ (it_lt hμ hd n) p hp
  exact wy_tb.mpr ⟨j, h1, h2, h3.trans e⟩
theorem r_beforeL {n T d : Nat} {σ : fh_S} (hI : RI (σ 45) n T) (hd : d < n) : ∀ (k t : Nat), t + k = n → ∀ fu : Nat, k < fu →
    fh_fx (ρ := Int32 → Int32 → fh_S → Option (Int32 × fh_S)) (fun _ _ _ => none) (f_X5_before_B26 (nI (rg_ (mu_ (σ 45)) n d)) 44) fu (nI t) (nI (it_ (mu_ (σ 45)) t d)) σ = some (nI (bf_ (rg_ (mu_ (σ 45)) n d) (fun t => it_ (mu_ (σ 45)) t d) k t), σ) := by
  have hn := hI.1
  have hlt := rg_lt hn hI.mu hd
  intro k
  induction k with
  | zero =>
    intro t ht fu hfu
    obtain ⟨f, rfl⟩ : ∃ f, fu = f + 1 := ⟨fu - 1, by omega⟩
    obtain rfl : t = n := by omega
    have hm := it_lt hI.mu hd t
    rw [fx_s, e_X5_before_B26, r_hasb hlt (by omega), fh_cb_s, if_pos (rg_in hI.mu hd), if_neg (by decide)]
    rfl
  | succ k ih =>
    intro t ht fu hfu
    obtain ⟨f, rfl⟩ : ∃ f, fu = f + 1 := ⟨fu - 1, by omega⟩
    have hm := it_lt hI.mu hd t
    rw [fx_s, e_X5_before_B26, r_hasb hlt (by omega), fh_cb_s]
    unfold bf_
    by_cases q : (rg_ (mu_ (σ 45)) n d).testBit (it_ (mu_ (σ 45)) t d) = true
    · rw [if_pos q, if_neg (by decide), if_pos q]
    · rw [if_neg q, if_pos rfl, if_neg q, r_is2 (by omega), fh_cb_s, hI.mue hm, nI_1]
      exact ih (t + 1) (by omega) f (by omega)
theorem s_before (a : Int32) : fh_Stp (f_X4_before 0 a) (f_X5_before 44 a) := by
  apply fh_Stp.mk
  intro N A σ τ hN hA hC hR
  obtain ⟨n, hI⟩ := hA.1
  have hn := hI.1
  have hIt : RI (τ 45) n (100 * N) := by rw [hR.1]; exact hI
  have hsz : σ 1 9 = nI n := by rw [hC.1.1]; exact hI.2.1
  unfold f_X4_before f_X5_before
  simp only [ob_H, ob_M, gr_0_0, bd_s, r_isDial (show n ≤ 1000 by omega) hIt.2.1, c_has fhG1 hsz, fh_cb_s, cb_id]
  rcases db_or a (show n ≤ 1000 by omega) with h | ⟨h, d, hd, rfl⟩
  · rw [h]
    simp only [if_true]
    exact ⟨_, _, hA.tell (by omega), c_tell0 hC, r_find0 hR⟩
  · rw [h]
    simp only [ne01, if_false]
    unfold f_X0_stepsToRing
    rw [ob_G fhG1, c_ring fhG1 hC.1 hI hd, fh_cb_s, r_ring hIt hd, fh_cb_s]
    have e1 := c_beforeL hC.1 hI hd n 0 (by omega) fh_fu (by unfold fh_fu; omega)
    have e2 := r_beforeL hIt hd n 0 (by omega) fh_fu (by unfold fh_fu; omega)
    rw [hR.1] at e2 ⊢
    exact ⟨_, A, hA.mono (by omega), ⟨σ, e1, hC, fun _ _ => rfl⟩, ⟨τ, e2, hR, fun _ _ => rfl⟩⟩
/-! under -/
def ud_ (μ : Nat → Nat) (n d : Nat) : Nat := ms_ (fun o => (wy_ μ o n).testBit d) n
theorem ms_s {p : Nat → Bool} {i : Nat} (hi : i < 10) : nI (ms_ p i) ||| ((1 : Int32) <<< (nI i &&& 31)) = nI (ms_ p i ||| 2 ^ i) := b_or i hi _ (ms_lt (by omega))
theorem or_0 {x : Int32} : x ||| 0 = x := Int32.or_zero
theorem c_underL {n T d : Nat} {σ : fh_S} {ρ : fh_Rw} (hR : GR 1 σ ρ) (hI : RI ρ n T) (hd : d < n) : ∀ (k i : Nat), i + k = n → ∀ fu : Nat, k < fu →
    fh_fx (ρ := Int32 → Int32 → fh_S → Option (Int32 × fh_S)) (fun _ _ _ => none) (f_X0_underSet_B4 1 (nI d)) fu (nI (ms_ (fun o => (wy_ (mu_ ρ) o n).testBit d) i)) (nI i) σ = some (nI (ud_ (mu_ ρ) n d), σ) := by
  have hn := hI.1
  have hsz : σ 1 9 = nI n := by rw [hR.1]; exact hI.2.1
  intro k
  induction k with
  | zero =>
    intro i hi fu hfu
    obtain ⟨f, rfl⟩ : ∃ f, fu = f + 1 := ⟨fu - 1, by omega⟩
    obtain rfl : i = n := by omega
    rw [fx_s, e_X0_underSet_B4]
    simp only [gi_G9 fhG1, bd_s, hsz]
    rw [if_pos (nI_le (by omega) (by omega))]
    rfl
  | succ k ih =>
    intro i hi fu hfu
    obtain ⟨f, rfl⟩ : ∃ f, fu = f + 1 := ⟨fu - 1, by omega⟩
    have hw := wy_lt hn hI.mu (show i < n by omega) n
    have := ih (i + 1) (by omega) f (by omega)
    unfold ms_ at this
    rw [fx_s, e_X0_underSet_B4]
    simp only [gi_G9 fhG1, bd_s, hsz]
    rw [if_neg (nI_ge (by omega) (by omega)), c_way fhG1 hR hI (by omega), fh_cb_s, c_isIn hw (by omega), fh_cb_s, jn_s]
    simp only [e_X0_underSet_J30, nI_1, ms_s (show i < 10 by omega)]
    by_cases q : (wy_ (mu_ ρ) i n).testBit d = true
    · rw [if_pos q] at this ⊢
      rw [if_neg (by decide)]
      exact this
    · rw [if_neg q] at this ⊢
      rw [if_pos rfl]
      exact this
theorem c_under {n T d : Nat} {σ : fh_S} {ρ : fh_Rw} (hR : GR 1 σ ρ) (hI : RI ρ n T) (hd : d < n) : f_X0_underSet 1 (nI d) σ = some (nI (ud_ (mu_ ρ) n d), σ) := by
  have hn := hI.1
  unfold f_X0_underSet
  rw [ob_G fhG1]
  exact c_underL hR hI hd n 0 (by omega) fh_fu (by unfold fh_fu; omega)
theorem r_underL {n T d : Nat} {σ : fh_S} (hI : RI (σ 45) n T) (hd : d < n) : ∀ (k i : Nat), i + k = n → ∀ fu : Nat, k < fu →
    fh_fx (ρ := Int32 → Int32 → fh_S → Option (Int32 × fh_S)) (fun _ _ _ => none) (f_X5_underOf_B4 44 (nI d)) fu (nI (ms_ (fun o => (wy_ (mu_ (σ 45)) o n).testBit d) i)) (nI i) σ = some (nI (ud_ (mu_ (σ 45)) n d), σ) := by
  have hn := hI.1
  intro k
  induction k with
  | zero =>
    intro i hi fu hfu
    obtain ⟨f, rfl⟩ : ∃ f, fu = f + 1 := ⟨fu - 1, by omega⟩
    obtain rfl : i = n := by omega
    rw [fx_s, e_X5_underOf_B4]
    simp only [gr_44_0, bd_s, ld_45_1, hI.2.1]
    rw [if_pos (nI_le (by omega) (by omega))]
    rfl
  | succ k ih =>
    intro i hi fu hfu
    obtain ⟨f, rfl⟩ : ∃ f, fu = f + 1 := ⟨fu - 1, by omega⟩
    have hw := wy_lt hn hI.mu (show i < n by omega) n
    have := ih (i + 1) (by omega) f (by omega)
    unfold ms_ at this
    rw [fx_s, e_X5_underOf_B4]
    simp only [gr_44_0, bd_s, ld_45_1, hI.2.1]
    rw [if_neg (nI_ge (by omega) (by omega)), r_way hI (by omega), fh_cb_s, r_hasb hw (by omega), fh_cb_s, jn_s]
    simp only [e_X5_underOf_J34, nI_1, ms_s (show i < 10 by omega), or_0]
    by_cases q : (wy_ (mu_ (σ 45)) i n).testBit d = true
    · rw [if_pos q] at this ⊢
      rw [if_neg (by decide)]
      exact this
    · rw [if_neg q] at this ⊢
      rw [if_pos rfl]
      exact this
theorem r_under {n T d : Nat} {σ : fh_S} (hI : RI (σ 45) n T) (hd : d < n) : f_X5_underOf 44 (nI d) σ = some (nI (ud_ (mu_ (σ 45)) n d), σ) := by
  have hn := hI.1
  unfold f_X5_underOf
  rw [ob_M]
  exact r_underL hI hd n 0 (by omega) fh_fu (by unfold fh_fu; omega)
theorem s_under (a : Int32) : fh_Stp (f_X4_under 0 a) (f_X5_under 44 a) := by
  apply fh_Stp.mk
  intro N A σ τ hN hA hC hR
  obtain ⟨n, hI⟩ := hA.1
  have hn := hI.1
  have hIt : RI (τ 45) n (100 * N) := by rw [hR.1]; exact hI
  have hsz : σ 1 9 = nI n := by rw [hC.1.1]; exact hI.2.1
  unfold f_X4_under f_X5_under
  simp only [ob_H, ob_M, gr_0_0, bd_s, r_isDial (show n ≤ 1000 by omega) hIt.2.1, c_has fhG1 hsz, fh_cb_s, cb_id]
  rcases db_or a (show n ≤ 1000 by omega) with h | ⟨h, d, hd, rfl⟩
  · rw [h]
    simp only [if_true]
    exact ⟨_, _, hA.tell (by omega), c_tell0 hC, r_find0 hR⟩
  · rw [h]
    simp only [ne01, if_false]
    rw [c_under hC.1 hI hd, r_under hIt hd, hR.1]
    exact ⟨_, A, hA.mono (by omega), ⟨σ, rfl, hC, fun _ _ => rfl⟩, ⟨τ, rfl, hR, fun _ _ => rfl⟩⟩
/-! greatest -/
theorem kf_val {F : Nat → Int32} : ∀ (k i : Nat) (b m : Int32), kf_ F k i b m = b ∨ ∃ j, i ≤ j ∧ j < i + k ∧ kf_ F k i b m = nI j
  | 0, _, _, _ => Or.inl rfl
  | k + 1, i, b, m => by
    unfold kf_
    split
    · rcases kf_val k (i + 1) b m with h | ⟨j, h1, h2, h3⟩
      · exact Or.inl h
      · exact Or.inr ⟨j, by omega, by omega, h3⟩
    · rcases kf_val k (i + 1) (nI i) (F i) with h | ⟨j, h1, h2, h3⟩
      · exact Or.inr ⟨i, by omega, by omega, h⟩
      · exact Or.inr ⟨j, by omega, by omega, h3⟩
/-- -1: none -/
def nA (A : fh_S) (v : Int32) : fh_S := if 0 ≤ v then A else tA A 3
def nV (v : Int32) : Int32 := if 0 ≤ v then v else -1000004
theorem AI.n {A : fh_S} {N : Nat} (h : AI A N) (v : Int32) : AI (nA A v) (N + 1) := by
  unfold nA
  split
  · exact h.mono (by omega)
  · exact h.tell (by omega)
theorem c_n {σ A : fh_S} (h : CR σ A) (v : Int32) : cE (if 0 ≤ v then some (v, σ) else f_X4_tell 0 (-1000004) σ) σ (nA A v) (nV v) := by
  unfold nA nV
  split
  · exact ⟨σ, rfl, h, fun _ _ => rfl⟩
  · exact c_tell3 h
theorem r_n {σ A : fh_S} (h : RR σ A) (v : Int32) : rE (f_X5_orNone 44 v σ) σ (nA A v) (nV v) := by
  unfold nA nV f_X5_orNone
  rw [ob_M, cb_id]
  split
  · exact ⟨σ, rfl, h, fun _ _ => rfl⟩
  · exact r_find3 h
theorem ud_lt {μ : Nat → Nat} {n d : Nat} (hn : n ≤ 10) : ud_ μ n d < 1024 := ms_lt hn
theorem c_greatL {n T : Nat} {σ A : fh_S} (hC : CR σ A) (hI : RI (A 45) n T) : ∀ (k i : Nat), i + k = n → ∀ fu : Nat, k < fu → ∀ b m : Int32,
    cE (fh_fx (ρ := Int32 → Int32 → Int32 → fh_S → Option (Int32 × fh_S)) (fun _ _ _ _ => none) (f_X4_greatest_B6 0) fu b m (nI i) σ) σ (nA A (kf_ (fun i => nI (pc_ (ud_ (mu_ (A 45)) n i))) k i b m)) (nV (kf_ (fun i => nI (pc_ (ud_ (mu_ (A 45)) n i))) k i b m)) := by
  have hn := hI.1
  have hsz : σ 1 9 = nI n := by rw [hC.1.1]; exact hI.2.1
  intro k
  induction k with
  | zero =>
    intro i hi fu hfu b m
    obtain ⟨f, rfl⟩ : ∃ f, fu = f + 1 := ⟨fu - 1, by omega⟩
    rw [fx_s, e_X4_greatest_B6]
    simp only [gr_0_0, gi_G9 fhG1, bd_s, hsz, cb_id]
    rw [if_pos (nI_le (by omega) (by omega))]
    exact c_n hC b
  | succ k ih =>
    intro i hi fu hfu b m
    obtain ⟨f, rfl⟩ : ∃ f, fu = f + 1 := ⟨fu - 1, by omega⟩
    rw [fx_s, e_X4_greatest_B6]
    simp only [gr_0_0, gi_G9 fhG1, bd_s, hsz]
    rw [if_neg (nI_ge (by omega) (by omega)), c_under hC.1 hI (by omega), fh_cb_s, j_bitCount (ud_lt hn), fh_cb_s, jn_s]
    simp only [e_X4_greatest_J41, nI_1]
    unfold kf_
    by_cases q : nI (pc_ (ud_ (mu_ (A 45)) n i)) ≤ m
    · rw [if_pos q, if_pos q]
      exact ih (i + 1) (by omega) f (by omega) b m
    · rw [if_neg q, if_neg q]
      exact ih (i + 1) (by omega) f (by omega) _ _
theorem r_greatL {n T : Nat} {σ A : fh_S} (hR : RR σ A) (hI : RI (A 45) n T) : ∀ (k i : Nat), i + k = n → ∀ fu : Nat, k < fu → ∀ b m : Int32,
    rE (fh_fx (ρ := Int32 → Int32 → Int32 → fh_S → Option (Int32 × fh_S)) (fun _ _ _ _ => none) (f_X5_greatest_B6 44) fu b m (nI i) σ) σ (nA A (kf_ (fun i => nI (pc_ (ud_ (mu_ (A 45)) n i))) k i b m)) (nV (kf_ (fun i => nI (pc_ (ud_ (mu_ (A 45)) n i))) k i b m)) := by
  have hn := hI.1
  have hIt : RI (σ 45) n T := by rw [hR.1]; exact hI
  intro k
  induction k with
  | zero =>
    intro i hi fu hfu b m
    obtain ⟨f, rfl⟩ : ∃ f, fu = f + 1 := ⟨fu - 1, by omega⟩
    rw [fx_s, e_X5_greatest_B6]
    simp only [gr_44_0, bd_s, ld_45_1, hIt.2.1, cb_id]
    rw [if_pos (nI_le (by omega) (by omega))]
    exact r_n hR b
  | succ k ih =>
    intro i hi fu hfu b m
    obtain ⟨f, rfl⟩ : ∃ f, fu = f + 1 := ⟨fu - 1, by omega⟩
    rw [fx_s, e_X5_greatest_B6]
    simp only [gr_44_0, bd_s, ld_45_1, hIt.2.1]
    rw [if_neg (nI_ge (by omega) (by omega)), r_under hIt (by omega), fh_cb_s, r_bits (ud_lt hn), fh_cb_s, jn_s, hR.1]
    simp only [e_X5_greatest_J37, j_max, fh_cb_s, nI_1]
    unfold kf_ mx_
    by_cases q : nI (pc_ (ud_ (mu_ (A 45)) n i)) ≤ m
    · rw [if_pos q, if_pos q, if_neg (Int32.not_lt.mpr q)]
      exact ih (i + 1) (by omega) f (by omega) b m
    · rw [if_neg q, if_neg q, if_pos (Int32.not_le.mp q)]
      exact ih (i + 1) (by omega) f (by omega) _ _
theorem s_greatest : fh_Stp (f_X4_greatest 0) (f_X5_greatest 44) := by
  apply fh_Stp.mk
  intro N A σ τ hN hA hC hR
  obtain ⟨n, hI⟩ := hA.1
  have hn := hI.1
  unfold f_X4_greatest f_X5_greatest
  rw [ob_H, ob_M]
  exact ⟨_, _, hA.n _, c_greatL hC hI n 0 (by omega) fh_fu (by unfold fh_fu; omega) (-1) (-1), r_greatL hR hI n 0 (by omega) fh_fu (by unfold fh_fu; omega) (-1) (-1)⟩
