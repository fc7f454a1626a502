/-! ===== the hour that most show ===== -/
theorem pc_0 : pc_ 0 = 0 := by decide +kernel
theorem d_pos : ∀ p, p < 11 → ∀ q, q < 11 → ((0 : Int32) < nI p - nI q ↔ q < p) := by decide +kernel
theorem d_zero : ∀ p, p < 11 → ∀ q, q < 11 → (nI p - nI q = 0 ↔ p = q) := by decide +kernel
def al_ (P h : Nat → Nat) : Nat → Nat → Option Nat → Option Nat
  | 0, _, b => b
  | k + 1, i, none => al_ P h k (i + 1) (some (h i))
  | k + 1, i, some b => al_ P h k (i + 1) (if P b < P (h i) ∨ (P b = P (h i) ∧ h i < b) then some (h i) else some b)
def hr_ (ρ : fh_Rw) (d : Nat) : Nat := (ρ (13 + 6 * d + 1)).toNatClampNeg
theorem RI.hre {ρ : fh_Rw} {n T : Nat} (h : RI ρ n T) {d : Nat} (hd : d < n) : hr_ ρ d < 720 ∧ ρ (13 + 6 * d + 1) = nI (hr_ ρ d) := by
  obtain ⟨m, hm, e⟩ := h.hour hd
  unfold hr_
  rw [e, nI_clamp (by omega)]
  exact ⟨hm, rfl⟩
def ps_ (ρ : fh_Rw) (n x : Nat) : Nat := pc_ (sw_ ρ 1 (nI x) n)
theorem ps_le {ρ : fh_Rw} {n x : Nat} : ps_ ρ n x < 11 := by have := pc_lt (s := sw_ ρ 1 (nI x) n); unfold ps_; omega
/-- the class's pair for the best hour so far -/
def aS (ρ : fh_Rw) (n : Nat) (b : Option Nat) : Nat := match b with
  | none => 0
  | some b => sw_ ρ 1 (nI b) n
def aH (b : Option Nat) : Nat := match b with
  | none => 720
  | some b => b
def aM (b : Option Nat) : Int32 := match b with
  | none => -1
  | some b => nI b
theorem sw_lt {ρ : fh_Rw} {f n : Nat} {v : Int32} (hn : n ≤ 10) : sw_ ρ f v n < 1024 := ms_lt hn
theorem sw_tb {ρ : fh_Rw} {f n d : Nat} {v : Int32} (hd : d < n) (h : ρ (13 + 6 * d + f) = v) : (sw_ ρ f v n).testBit d = true := by
  unfold sw_
  rw [ms_tb]
  simp [hd, h]
theorem c_alikeL {g n T : Nat} {σ : fh_S} {ρ : fh_Rw} (hg : fh_G g) (hR : GR g σ ρ) (hI : RI ρ n T) : ∀ (k i : Nat), i + k = n → ∀ fu : Nat, k < fu → ∀ b : Option Nat, (∀ x, b = some x → x < 720) →
    fh_fx (ρ := Int32 → Int32 → Int32 → fh_S → Option (Int32 × fh_S)) (fun _ _ _ _ => none) (f_X0_alikeSet_B8 g) fu (nI (aS ρ n b)) (nI (aH b)) (nI i) σ = some (nI (aS ρ n (al_ (ps_ ρ n) (hr_ ρ) k i b)), σ) := by
  have hn := hI.1
  have hsz : σ g 9 = nI n := by rw [hR.1]; exact hI.2.1
  intro k
  induction k with
  | zero =>
    intro i hi fu hfu b hb
    obtain ⟨m, rfl⟩ : ∃ m, fu = m + 1 := ⟨fu - 1, by omega⟩
    rw [fx_s, e_X0_alikeSet_B8]
    simp only [gi_G9 hg, bd_s, hsz]
    rw [if_pos (nI_le (by omega) (by omega))]
    unfold al_
    rfl
  | succ k ih =>
    intro i hi fu hfu b hb
    obtain ⟨m, rfl⟩ : ∃ m, fu = m + 1 := ⟨fu - 1, by omega⟩
    have hi10 : i < 10 := by omega
    obtain ⟨hh, eh⟩ := hI.hre (show i < n by omega)
    have hb' : aS ρ n b < 1024 := by
      cases b with
      | none => exact (by decide : (0 : Nat) < 1024)
      | some b => exact sw_lt hn
    rw [fx_s, e_X0_alikeSet_B8]
    simp only [gi_G9 hg, bd_s, hsz]
    rw [if_neg (nI_ge (by omega) (by omega))]
    simp only [gr_G1 hg, bd_s, ld_G2 hg hi10, hR.f1 hi10]
    rw [eh, c_where hg hR hI (ar_G2 hg) (fun d hd => hR.f1 hd), fh_cb_s, j_bitCount (sw_lt hn), fh_cb_s, j_bitCount hb', fh_cb_s]
    simp only [jn_s, e_X0_alikeSet_J64, e_X0_alikeSet_J74, gr_G1 hg, bd_s, ld_G2 hg hi10, hR.f1 hi10, eh, nI_1]
    have up := ih (i + 1) (by omega) m (by omega) (some (hr_ ρ i)) (fun x e => by cases e; exact hh)
    cases b with
    | none =>
      have hp : 0 < pc_ (sw_ ρ 1 (nI (hr_ ρ i)) n) := pc_pos i hi10 _ (sw_lt hn) (sw_tb (by omega) eh)
      have hl := pc_lt (s := sw_ ρ 1 (nI (hr_ ρ i)) n)
      have hp' : pc_ (aS ρ n none) < pc_ (sw_ ρ 1 (nI (hr_ ρ i)) n) := by show pc_ 0 < _; rw [pc_0]; exact hp
      rw [if_pos ((d_pos _ (by omega) _ (show pc_ (aS ρ n none) < 11 from (by decide : pc_ 0 < 11))).mpr hp')]
      unfold al_
      exact up
    | some b =>
      have hbb := hb b rfl
      have l1 := pc_lt (s := sw_ ρ 1 (nI (hr_ ρ i)) n)
      have l2 := pc_lt (s := sw_ ρ 1 (nI b) n)
      have keep := ih (i + 1) (by omega) m (by omega) (some b) hb
      unfold al_
      show (if (0 : Int32) < nI (pc_ (sw_ ρ 1 (nI (hr_ ρ i)) n)) - nI (pc_ (sw_ ρ 1 (nI b) n)) then _ else _) = _
      by_cases q : pc_ (sw_ ρ 1 (nI b) n) < pc_ (sw_ ρ 1 (nI (hr_ ρ i)) n)
      · rw [if_pos ((d_pos _ (by omega) _ (by omega)).mpr q), if_pos (show ps_ ρ n b < ps_ ρ n (hr_ ρ i) ∨ _ from Or.inl q)]
        exact up
      · rw [if_neg (fun z => q ((d_pos _ (by omega) _ (by omega)).mp z))]
        show (if nI (pc_ (sw_ ρ 1 (nI (hr_ ρ i)) n)) - nI (pc_ (sw_ ρ 1 (nI b) n)) = 0 then _ else _) = _
        by_cases q2 : pc_ (sw_ ρ 1 (nI (hr_ ρ i)) n) = pc_ (sw_ ρ 1 (nI b) n)
        · rw [if_pos ((d_zero _ (by omega) _ (by omega)).mpr q2)]
          show (if nI b ≤ nI (hr_ ρ i) then _ else _) = _
          by_cases q3 : b ≤ hr_ ρ i
          · rw [if_pos (nI_le q3 (by omega)), if_neg (show ¬ (ps_ ρ n b < ps_ ρ n (hr_ ρ i) ∨ (ps_ ρ n b = ps_ ρ n (hr_ ρ i) ∧ hr_ ρ i < b)) from fun z => z.elim (fun z => q z) (fun z => absurd z.2 (by omega)))]
            exact keep
          · rw [if_neg (nI_ge (by omega) (by omega)), if_pos (show ps_ ρ n b < ps_ ρ n (hr_ ρ i) ∨ (ps_ ρ n b = ps_ ρ n (hr_ ρ i) ∧ hr_ ρ i < b) from Or.inr ⟨q2.symm, by omega⟩)]
            exact up
        · rw [if_neg (fun z => q2 ((d_zero _ (by omega) _ (by omega)).mp z)), if_neg (show ¬ (ps_ ρ n b < ps_ ρ n (hr_ ρ i) ∨ (ps_ ρ n b = ps_ ρ n (hr_ ρ i) ∧ hr_ ρ i < b)) from fun z => z.elim (fun z => q z) (fun z => q2 z.1.symm))]
          exact keep
def ab (ρ : fh_Rw) (n : Nat) : Option Nat := al_ (ps_ ρ n) (hr_ ρ) n 0 none
theorem c_alike {g n T : Nat} {σ : fh_S} {ρ : fh_Rw} (hg : fh_G g) (hR : GR g σ ρ) (hI : RI ρ n T) : f_X0_alikeSet g σ = some (nI (aS ρ n (ab ρ n)), σ) := by
  have hn := hI.1
  unfold f_X0_alikeSet
  rw [ob_G hg]
  exact c_alikeL hg hR hI n 0 (by omega) fh_fu (by unfold fh_fu; omega) none (fun x e => by cases e)
theorem r_many {n T : Nat} {v : Int32} {σ : fh_S} (hI : RI (σ 45) n T) : f_X5_manyShow 44 v σ = some (nI (pc_ (sw_ (σ 45) 1 v n)), σ) := by
  unfold f_X5_manyShow
  rw [ob_M, r_who hI, fh_cb_s, r_bits (sw_lt hI.1), fh_cb_s]
theorem r_mostL {n T : Nat} {σ : fh_S} (hI : RI (σ 45) n T) : ∀ (k i : Nat), i + k = n → ∀ fu : Nat, k < fu → ∀ b : Option Nat, (∀ x, b = some x → x < 720) →
    fh_fx (ρ := Int32 → Int32 → fh_S → Option (Int32 × fh_S)) (fun _ _ _ => none) (f_X5_mostShown_B4 44) fu (aM b) (nI i) σ = some (aM (al_ (ps_ (σ 45) n) (hr_ (σ 45)) k i b), σ) := by
  have hn := hI.1
  intro k
  induction k with
  | zero =>
    intro i hi fu hfu b hb
    obtain ⟨m, rfl⟩ : ∃ m, fu = m + 1 := ⟨fu - 1, by omega⟩
    rw [fx_s, e_X5_mostShown_B4]
    simp only [gr_44_0, bd_s, ld_45_1, hI.2.1]
    rw [if_pos (nI_le (by omega) (by omega))]
    unfold al_
    rfl
  | succ k ih =>
    intro i hi fu hfu b hb
    obtain ⟨m, rfl⟩ : ∃ m, fu = m + 1 := ⟨fu - 1, by omega⟩
    obtain ⟨hh, eh⟩ := hI.hre (show i < n by omega)
    rw [fx_s, e_X5_mostShown_B4]
    simp only [gr_44_0, bd_s, ld_45_1, hI.2.1]
    rw [if_neg (nI_ge (by omega) (by omega)), r_is1 (by omega), fh_cb_s, eh, jn_s]
    have up := ih (i + 1) (by omega) m (by omega) (some (hr_ (σ 45) i)) (fun x e => by cases e; exact hh)
    cases b with
    | none =>
      rw [if_neg (by decide : ¬ (0 : Int32) ≤ aM none), e_X5_mostShown_J40]
      simp only [jn_s, e_X5_mostShown_J57, e_X5_mostShown_J62, nI_1]
      rw [if_pos (by decide)]
      unfold al_
      exact up
    | some b =>
      have hbb := hb b rfl
      have l1 := pc_lt (s := sw_ (σ 45) 1 (nI (hr_ (σ 45) i)) n)
      have l2 := pc_lt (s := sw_ (σ 45) 1 (nI b) n)
      have keep := ih (i + 1) (by omega) m (by omega) (some b) hb
      show (if (0 : Int32) ≤ nI b then _ else _) = _
      rw [if_pos (nI_pos' (by omega)), r_many hI, fh_cb_s]
      show (fh_cb (f_X5_manyShow 44 (nI b) σ) _) = _
      rw [r_many hI, fh_cb_s, e_X5_mostShown_J40]
      simp only [jn_s, e_X5_mostShown_J57, e_X5_mostShown_J61, e_X5_mostShown_J62, nI_1]
      unfold al_
      by_cases q : pc_ (sw_ (σ 45) 1 (nI b) n) < pc_ (sw_ (σ 45) 1 (nI (hr_ (σ 45) i)) n)
      · rw [if_pos ((d_pos _ (by omega) _ (by omega)).mpr q), if_pos (show ps_ (σ 45) n b < ps_ (σ 45) n (hr_ (σ 45) i) ∨ _ from Or.inl q)]
        exact up
      · rw [if_neg (fun z => q ((d_pos _ (by omega) _ (by omega)).mp z))]
        by_cases q2 : pc_ (sw_ (σ 45) 1 (nI (hr_ (σ 45) i)) n) = pc_ (sw_ (σ 45) 1 (nI b) n)
        · rw [if_pos ((d_zero _ (by omega) _ (by omega)).mpr q2)]
          show (if nI b ≤ nI (hr_ (σ 45) i) then _ else _) = _
          by_cases q3 : b ≤ hr_ (σ 45) i
          · rw [if_pos (nI_le q3 (by omega)), if_neg (show ¬ (ps_ (σ 45) n b < ps_ (σ 45) n (hr_ (σ 45) i) ∨ (ps_ (σ 45) n b = ps_ (σ 45) n (hr_ (σ 45) i) ∧ hr_ (σ 45) i < b)) from fun z => z.elim (fun z => q z) (fun z => absurd z.2 (by omega)))]
            exact keep
          · rw [if_neg (nI_ge (by omega) (by omega)), if_pos (show ps_ (σ 45) n b < ps_ (σ 45) n (hr_ (σ 45) i) ∨ (ps_ (σ 45) n b = ps_ (σ 45) n (hr_ (σ 45) i) ∧ hr_ (σ 45) i < b) from Or.inr ⟨q2.symm, by omega⟩)]
            exact up
        · rw [if_neg (fun z => q2 ((d_zero _ (by omega) _ (by omega)).mp z)), if_neg (show ¬ (ps_ (σ 45) n b < ps_ (σ 45) n (hr_ (σ 45) i) ∨ (ps_ (σ 45) n b = ps_ (σ 45) n (hr_ (σ 45) i) ∧ hr_ (σ 45) i < b)) from fun z => z.elim (fun z => q z) (fun z => q2 z.1.symm))]
          exact keep
theorem r_most {n T : Nat} {σ : fh_S} (hI : RI (σ 45) n T) : f_X5_mostShown 44 σ = some (aM (ab (σ 45) n), σ) := by
  have hn := hI.1
  unfold f_X5_mostShown
  rw [ob_M]
  exact r_mostL hI n 0 (by omega) fh_fu (by unfold fh_fu; omega) none (fun x e => by cases e)
theorem al_val {P h : Nat → Nat} : ∀ (k i : Nat) (b : Option Nat), (al_ P h k i b = b ∨ ∃ j, i ≤ j ∧ j < i + k ∧ al_ P h k i b = some (h j)) ∧ (b = none → 0 < k → ∃ j, i ≤ j ∧ j < i + k ∧ al_ P h k i b = some (h j))
  | 0, _, _ => ⟨Or.inl rfl, fun _ h => by omega⟩
  | k + 1, i, none => by
    unfold al_
    rcases (al_val (P := P) (h := h) k (i + 1) (some (h i))).1 with e | ⟨j, h1, h2, h3⟩
    · exact ⟨Or.inr ⟨i, by omega, by omega, e⟩, fun _ _ => ⟨i, by omega, by omega, e⟩⟩
    · exact ⟨Or.inr ⟨j, by omega, by omega, h3⟩, fun _ _ => ⟨j, by omega, by omega, h3⟩⟩
  | k + 1, i, some b => by
    unfold al_
    refine ⟨?_, fun h => by cases h⟩
    split
    · rcases (al_val (P := P) (h := h) k (i + 1) (some (h i))).1 with e | ⟨j, h1, h2, h3⟩
      · exact Or.inr ⟨i, by omega, by omega, e⟩
      · exact Or.inr ⟨j, by omega, by omega, h3⟩
    · rcases (al_val (P := P) (h := h) k (i + 1) (some b)).1 with e | ⟨j, h1, h2, h3⟩
      · exact Or.inl e
      · exact Or.inr ⟨j, by omega, by omega, h3⟩
theorem ab_0 {ρ : fh_Rw} : ab ρ 0 = none := rfl
theorem ab_s {ρ : fh_Rw} {n : Nat} (hn : 0 < n) : ∃ j, j < n ∧ ab ρ n = some (hr_ ρ j) := by
  obtain ⟨j, h1, h2, h3⟩ := (al_val (P := ps_ ρ n) (h := hr_ ρ) n 0 none).2 rfl hn
  exact ⟨j, by omega, h3⟩
theorem nz_in : ∀ s, s < 1024 → s ≠ 0 → ∃ d, d < 10 ∧ nz_ (nI s) = nI d ∧ s.testBit d = true := by decide +kernel
theorem sw_of {ρ : fh_Rw} {f n d : Nat} {v : Int32} (h : (sw_ ρ f v n).testBit d = true) : d < n ∧ ρ (13 + 6 * d + f) = v := by
  unfold sw_ at h
  rw [ms_tb, Bool.and_eq_true, decide_eq_true_eq, decide_eq_true_eq] at h
  exact h
theorem s_most : fh_Stp (f_X4_most 0) (f_X5_most 44) := by
  apply fh_Stp.mk
  intro N A σ τ hN hA hC hR
  obtain ⟨n, hI⟩ := hA.1
  have hn := hI.1
  have hIt : RI (τ 45) n (100 * N) := by rw [hR.1]; exact hI
  unfold f_X4_most f_X5_most
  simp only [ob_H, ob_M, gr_0_0, bd_s, cb_id]
  rw [c_alike fhG1 hC.1 hI, fh_cb_s, r_most hIt, fh_cb_s, hR.1]
  by_cases h0 : n = 0
  · subst h0
    rw [ab_0, if_pos (show nI (aS (A 45) 0 none) = 0 from rfl)]
    exact ⟨_, _, hA.tell (by omega), c_tell3 hC, r_orNoneN hR⟩
  · obtain ⟨j, hj, e⟩ := ab_s (ρ := A 45) (show 0 < n by omega)
    obtain ⟨hh, eh⟩ := hI.hre hj
    rw [e]
    show ∃ v A', AI A' (N + 1) ∧ cE (if nI (sw_ (A 45) 1 (nI (hr_ (A 45) j)) n) = 0 then _ else _) σ A' v ∧ rE (f_X5_orNone 44 (nI (hr_ (A 45) j)) τ) τ A' v
    have hlt : sw_ (A 45) 1 (nI (hr_ (A 45) j)) n < 1024 := sw_lt hn
    have htb := sw_tb (ρ := A 45) (f := 1) hj eh
    have hne : sw_ (A 45) 1 (nI (hr_ (A 45) j)) n ≠ 0 := fun z => by rw [z] at htb; simp at htb
    obtain ⟨d, hd, ed, td⟩ := nz_in _ hlt hne
    obtain ⟨hdn, ev⟩ := sw_of td
    rw [if_neg (show ¬ nI (sw_ (A 45) 1 (nI (hr_ (A 45) j)) n) = 0 from fun z => hne ((nI_eq (b := 0) (by omega) (by omega)).mp z)), gr_G1 fhG1, bd_s, c_lowest, fh_cb_s]
    show ∃ v A', AI A' (N + 1) ∧ cE ((fh_ld σ (1 + 2) (nz_ (nI (sw_ (A 45) 1 (nI (hr_ (A 45) j)) n)))).bind _) σ A' v ∧ _
    rw [ed, ld_G2 fhG1 hd, bd_s, hC.1.f1 hd, ev]
    exact ⟨_, A, hA.mono (by omega), ⟨σ, rfl, hC, fun _ _ => rfl⟩, r_orNone hR (by omega)⟩
theorem r_right {n T a : Nat} {σ A : fh_S} (hR : RR σ A) (hI : RI (A 45) n T) (ha : a ≤ 200) : rE (f_X5_rightBehind 44 (nI a) σ) σ A (nI (aS (tN_ n a (A 45)) n (ab (tN_ n a (A 45)) n))) := by
  have hn := hI.1
  obtain ⟨σ1, e1, b1, q1, k1⟩ := r_aside hR
  obtain ⟨σ2, e2, q2, k2⟩ := r_ticks (σ := σ1) (by rw [q1, hR.1]; exact hI) ha
  have q3 : σ2 45 = tN_ n a (A 45) := by rw [q2, q1, hR.1]
  have hI2 : RI (σ2 45) n (T + a) := by rw [q3]; exact hI.ticks a T
  unfold f_X5_rightBehind
  simp only [ob_M, gr_44_0, gr_44_2, bd_s]
  rw [e1, fh_cb_s, e2, fh_cb_s, r_most hI2, fh_cb_s, r_who hI2, fh_cb_s, cb_id, q3]
  have e : sw_ (tN_ n a (A 45)) 1 (aM (ab (tN_ n a (A 45)) n)) n = aS (tN_ n a (A 45)) n (ab (tN_ n a (A 45)) n) := by
    by_cases h0 : n = 0
    · subst h0; rfl
    · obtain ⟨j, hj, e⟩ := ab_s (ρ := tN_ n a (A 45)) (show 0 < n by omega)
      rw [e]; rfl
  rw [e]
  exact (r_putBack (b1.ticked hn q2 k2)).bk (fun k hk => by rw [k2 k (by omega) (by omega)]; exact k1 k (by omega))
theorem aS_lt {ρ : fh_Rw} {n : Nat} {b : Option Nat} (hn : n ≤ 10) : aS ρ n b < 1024 := by
  cases b with
  | none => exact (by decide : (0 : Nat) < 1024)
  | some b => exact sw_lt hn
theorem s_right (a : Int32) : fh_Stp (f_X4_right 0 a) (f_X5_right 44 a) := by
  apply fh_Stp.mk
  intro N A σ τ hN hA hC hR
  obtain ⟨n, hI⟩ := hA.1
  have hn := hI.1
  unfold f_X4_right f_X5_right
  simp only [ob_H, ob_M, c_isWithin, r_within, fh_cb_s, cb_id]
  rcases wb_or a 0 200 with q | ⟨q, -⟩
  · rw [q]
    simp only [if_true]
    exact ⟨_, _, hA.tell (by omega), c_tell0 hC, r_find0 hR⟩
  · obtain ⟨k, hk, rfl⟩ := wb_nI (a := a) (h := 200) (by omega) q
    rw [q]
    simp only [ne01, if_false]
    obtain ⟨σ1, e1, g1, c1, k1⟩ := c_tryTicks hC hI hk (by omega)
    rw [e1, fh_cb_s, gr_0_2, bd_s, c_alike fhG21 g1 (hI.ticks k _)]
    exact fin_q hA c1 k1 (r_right hR hI hk)
theorem s_jogs (a : Int32) : fh_Stp (f_X4_jogs 0 a) (f_X5_jogs 44 a) := by
  apply fh_Stp.mk
  intro N A σ τ hN hA hC hR
  obtain ⟨n, hI⟩ := hA.1
  have hn := hI.1
  have hIt : RI (τ 45) n (100 * N) := by rw [hR.1]; exact hI
  unfold f_X4_jogs f_X5_jogs
  simp only [ob_H, ob_M, c_isWithin, r_within, fh_cb_s, cb_id, gr_44_0, bd_s, ld_45_1, hIt.2.1]
  rcases wb_or a 0 200 with q | ⟨q, -⟩
  · rw [q]
    simp only [if_true]
    exact ⟨_, _, hA.tell (by omega), c_tell0 hC, r_find0 hR⟩
  · obtain ⟨k, hk, rfl⟩ := wb_nI (a := a) (h := 200) (by omega) q
    rw [q]
    simp only [ne01, if_false]
    obtain ⟨σ1, e1, g1, c1, k1⟩ := c_tryTicks hC hI hk (by omega)
    have hI2 := hI.ticks k (100 * N)
    obtain ⟨τ1, e2, r2, k2⟩ := r_right hR hI hk
    rw [e1, fh_cb_s, e2, fh_cb_s, r_bits (aS_lt hn), fh_cb_s]
    simp only [gr_0_2, bd_s, gi_G9 fhG21]
    rw [c_alike fhG21 g1 hI2, fh_cb_s, j_bitCount (aS_lt hn), fh_cb_s, g1.1, hI2.2.1]
    exact ⟨_, A, hA.mono (by omega), ⟨σ1, rfl, c1, fun k hk => k1 k (by omega)⟩, ⟨τ1, rfl, r2, k2⟩⟩
theorem all_iff {ρ : fh_Rw} {n x : Nat} (hn : n ≤ 10) : pc_ (sw_ ρ 1 (nI x) n) = n ↔ ∀ d, d < n → ρ (13 + 6 * d + 1) = nI x := by
  unfold sw_
  rw [pc_ms hn, cp_all]
  constructor
  · intro h d hd; exact of_decide_eq_true (h d hd)
  · intro h d hd; exact decide_eq_true (h d hd)
theorem s_now (a : Int32) : fh_Stp (f_X4_now 0 a) (f_X5_now 44 a) := by
  apply fh_Stp.mk
  intro N A σ τ hN hA hC hR
  obtain ⟨n, hI⟩ := hA.1
  have hn := hI.1
  have hIt : RI (τ 45) n (100 * N) := by rw [hR.1]; exact hI
  unfold f_X4_now f_X5_now
  simp only [ob_H, ob_M, gr_0_0, gr_44_0, bd_s, cb_id]
  by_cases h0 : a = 0
  · rw [if_pos h0, if_pos h0, gi_G10 fhG1, bd_s, ld_45_0, bd_s, hC.1.2.1, hR.1]
    exact ⟨_, A, hA.mono (by omega), ⟨σ, rfl, hC, fun _ _ => rfl⟩, ⟨τ, rfl, hR, fun _ _ => rfl⟩⟩
  rw [if_neg h0, if_neg h0]
  by_cases h1 : a = 1
  · rw [if_pos h1, if_pos h1, c_stopped fhG1 hC.1 hI, r_stoppedNow hIt, hR.1]
    exact ⟨_, A, hA.mono (by omega), ⟨σ, rfl, hC, fun _ _ => rfl⟩, ⟨τ, rfl, hR, fun _ _ => rfl⟩⟩
  rw [if_neg h1, if_neg h1]
  by_cases h2 : a = 2
  · rw [if_pos h2, if_pos h2, c_still fhG1 hC.1 hI, r_stillNow hIt, hR.1]
    exact ⟨_, A, hA.mono (by omega), ⟨σ, rfl, hC, fun _ _ => rfl⟩, ⟨τ, rfl, hR, fun _ _ => rfl⟩⟩
  rw [if_neg h2, if_neg h2]
  by_cases h3 : a = 3
  · rw [if_pos h3, if_pos h3]
    unfold f_X0_ownMasterSet f_X5_ownNow
    rw [ob_G fhG1, ob_M]
    have e1 := c_ownL hC.1 hI n 0 (by omega) fh_fu (by unfold fh_fu; omega)
    have e2 := r_ownL hIt n 0 (by omega) fh_fu (by unfold fh_fu; omega)
    rw [hR.1] at e2
    exact ⟨_, A, hA.mono (by omega), ⟨σ, e1, hC, fun _ _ => rfl⟩, ⟨τ, e2, hR, fun _ _ => rfl⟩⟩
  rw [if_neg h3, if_neg h3]
  by_cases h4 : a = 4
  · rw [if_pos h4, if_pos h4, gr_G3 fhG1, bd_s]
    unfold f_X0_sumOf f_X5_sumOf
    rw [ob_G fhG1, ob_M]
    have e1 := c_sumL hC.1 hI (ar_G4 fhG1) (fun d hd => hC.1.f3 hd) n 0 (by omega) fh_fu (by unfold fh_fu; omega) 0
    have e2 := r_sumL hIt (show 3 < 6 by omega) n 0 (by omega) fh_fu (by unfold fh_fu; omega) 0
    rw [hR.1] at e2
    exact ⟨_, A, hA.mono (by omega), ⟨σ, e1, hC, fun _ _ => rfl⟩, ⟨τ, e2, hR, fun _ _ => rfl⟩⟩
  rw [if_neg h4, if_neg h4]
  by_cases h5 : a = 5
  · rw [if_pos h5, if_pos h5, c_alike fhG1 hC.1 hI, fh_cb_s, j_bitCount (aS_lt hn), fh_cb_s, gi_G9 fhG1, bd_s, hC.1.1, hI.2.1, show (0 : Int32) = nI 0 from rfl, r_is1 (by omega), fh_cb_s, r_many hIt, fh_cb_s, ld_45_1, bd_s, hIt.2.1, hR.1]
    have key : (nI (pc_ (aS (A 45) n (ab (A 45) n))) = nI n) ↔ (nI (pc_ (sw_ (A 45) 1 (A 45 (13 + 6 * 0 + 1)) n)) = nI n) := by
      have l1 := pc_lt (s := aS (A 45) n (ab (A 45) n))
      have l2 := pc_lt (s := sw_ (A 45) 1 (A 45 (13 + 6 * 0 + 1)) n)
      rw [nI_eq (by omega) (by omega), nI_eq (by omega) (by omega)]
      by_cases z : n = 0
      · subst z
        rw [ab_0]
        show pc_ 0 = 0 ↔ pc_ 0 = 0
        exact Iff.rfl
      · obtain ⟨j, hj, e⟩ := ab_s (ρ := A 45) (show 0 < n by omega)
        obtain ⟨hh, eh⟩ := hI.hre hj
        obtain ⟨hh0, eh0⟩ := hI.hre (show 0 < n by omega)
        rw [e, eh0]
        show pc_ (sw_ (A 45) 1 (nI (hr_ (A 45) j)) n) = n ↔ _
        rw [all_iff hn, all_iff hn]
        constructor
        · intro h d hd
          rw [← eh0, h 0 (by omega), h d hd]
        · intro h d hd
          rw [h d hd, ← eh, h j hj]
    by_cases q : nI (pc_ (aS (A 45) n (ab (A 45) n))) = nI n
    · rw [if_pos q, if_pos (key.mp q)]
      exact ⟨_, A, hA.mono (by omega), ⟨σ, rfl, hC, fun _ _ => rfl⟩, ⟨τ, rfl, hR, fun _ _ => rfl⟩⟩
    · rw [if_neg q, if_neg (fun z => q (key.mpr z))]
      exact ⟨_, A, hA.mono (by omega), ⟨σ, rfl, hC, fun _ _ => rfl⟩, ⟨τ, rfl, hR, fun _ _ => rfl⟩⟩
  rw [if_neg h5, if_neg h5]
  exact ⟨_, _, hA.tell (by omega), c_tell0 hC, r_find0 hR⟩
