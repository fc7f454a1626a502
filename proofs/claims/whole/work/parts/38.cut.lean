/-! ===== cut: the two loops ===== -/
def cP_ (ρ : fh_Rw) (n a : Nat) (s : Nat) : Bool := decide (sd_ ρ n s a = 2 ^ n - 1)
def cQ_ (ρ : fh_Rw) (n a : Nat) (s : Nat) : Bool := decide (s &&& sw_ ρ 4 1 n = 0) && cP_ ρ n a s
theorem sk_less {s d : Nat} (hb : s.testBit d = true) : ∀ (k i : Nat) (ρ : fh_Rw), ρ (13 + 6 * d + 4) = 1 → sk_ (s ^^^ 2 ^ d) k i ρ = sk_ s k i ρ := by
  intro k
  induction k with
  | zero => intro i ρ _; rfl
  | succ k ih =>
    intro i ρ h
    unfold sk_
    by_cases e : i = d
    · subst e
      rw [Nat.testBit_xor, hb, Nat.testBit_two_pow_self, if_pos rfl, show sp_ ρ i 1 = ρ by unfold sp_; rw [if_pos h]]
      rw [show (true ^^ true) = false from rfl, if_neg (by decide)]
      exact ih (i + 1) ρ h
    · rw [Nat.testBit_xor, Nat.testBit_two_pow_of_ne (fun h => e h.symm), Bool.xor_false]
      refine ih (i + 1) _ ?_
      split
      · unfold sp_
        split
        · exact h
        · rw [pk_un (by omega), pk_un (by omega)]
          exact h
      · exact h
theorem cut_less {ρ : fh_Rw} {n a s : Nat} (hn : n ≤ 10) (hs : s < 2 ^ n) (hp : cP_ ρ n a s = true) (hq : cQ_ ρ n a s = false) : ∃ s', s' < 2 ^ n ∧ cP_ ρ n a s' = true ∧ pc_ s' < pc_ s := by
  unfold cQ_ at hq
  rw [hp, Bool.and_true, decide_eq_false_iff_not] at hq
  obtain ⟨d, hd⟩ := Nat.exists_testBit_of_ne_zero hq
  rw [Nat.testBit_and, Bool.and_eq_true] at hd
  have h2 := hd.2
  unfold sw_ at h2
  rw [ms_tb, Bool.and_eq_true, decide_eq_true_eq, decide_eq_true_eq] at h2
  refine ⟨s ^^^ 2 ^ d, Nat.xor_lt_two_pow hs (Nat.pow_lt_pow_right (by omega) h2.1), ?_, ?_⟩
  · unfold cP_ sd_ at hp ⊢
    rw [sk_less hd.1 n 0 ρ h2.2]
    exact hp
  · have := pc_xor d (by omega) s (by have := p2_le hn; omega) hd.1
    omega
theorem c_cutI {n T a c : Nat} {A : fh_S} {r13 : Int32 → fh_S → Option (Int32 × fh_S)} (ha : a ≤ 200) (hT : T < 99000) (hI : RI (A 45) n T) (hc : c ≤ 10) : ∀ (k i : Nat), i + k = 2 ^ n → ∀ fu : Nat, k < fu → ∀ (σ : fh_S), CR σ A →
    (∀ j, fi_ (fun s => decide (pc_ s = c) && cQ_ (A 45) n a s) k i = some j → cE (fh_fx (ρ := Int32 → fh_S → Option (Int32 × fh_S)) (fun _ _ => none) (f_X4_cut_B55 (nI n) r13 (nI c) 0 (nI a) (nI (sw_ (A 45) 4 1 n))) fu (nI i) σ) σ A (nI j)) ∧
    (fi_ (fun s => decide (pc_ s = c) && cQ_ (A 45) n a s) k i = none → ∃ σ', fh_fx (ρ := Int32 → fh_S → Option (Int32 × fh_S)) (fun _ _ => none) (f_X4_cut_B55 (nI n) r13 (nI c) 0 (nI a) (nI (sw_ (A 45) 4 1 n))) fu (nI i) σ = r13 (nI (c + 1)) σ' ∧ CR σ' A ∧ ∀ k, 44 ≤ k → σ' k = σ k) := by
  have hn := hI.1
  obtain ⟨hM0, hM⟩ := p2_le hn
  intro k
  induction k with
  | zero =>
    intro i hi fu hfu σ hC
    obtain ⟨f, rfl⟩ : ∃ f, fu = f + 1 := ⟨fu - 1, by omega⟩
    refine ⟨fun j e => (by cases e), fun _ => ?_⟩
    rw [fx_s, e_X4_cut_B55, b_all n (by omega), if_pos (nI_lt (by omega) (by omega)), nI_1]
    exact ⟨σ, rfl, hC, fun _ _ => rfl⟩
  | succ k ih =>
    intro i hi fu hfu σ hC
    obtain ⟨f, rfl⟩ : ∃ f, fu = f + 1 := ⟨fu - 1, by omega⟩
    rw [fx_s, e_X4_cut_B55, b_all n (by omega), if_neg (nI_nlt (by omega) (by omega)), j_bitCount (by omega), fh_cb_s, jn_s, jn_s, b_and]
    unfold fi_
    simp only [nI_eq (show pc_ i < 2 ^ 31 by have := pc_lt (s := i); omega) (show c < 2 ^ 31 by omega)]
    have hand : i &&& sw_ (A 45) 4 1 n < 2 ^ 31 := by
      have : i &&& sw_ (A 45) 4 1 n ≤ i := Nat.and_le_left
      omega
    rw [show (0 : Int32) = nI 0 from rfl]
    simp only [nI_eq hand (show 0 < 2 ^ 31 by omega)]
    have next : (f_X4_cut_J82 (f_X4_cut_J83 (fh_fx (ρ := Int32 → fh_S → Option (Int32 × fh_S)) (fun _ _ => none) (f_X4_cut_B55 (nI n) r13 (nI c) 0 (nI a) (nI (sw_ (A 45) 4 1 n))) f) (nI i) 0 (nI a) (nI n)) σ) = fh_fx (ρ := Int32 → fh_S → Option (Int32 × fh_S)) (fun _ _ => none) (f_X4_cut_B55 (nI n) r13 (nI c) 0 (nI a) (nI (sw_ (A 45) 4 1 n))) f (nI (i + 1)) σ := by
      rw [e_X4_cut_J82, e_X4_cut_J83, jn_s, if_pos rfl, e_X4_cut_J104, nI_1]
    by_cases q1 : pc_ i = c
    · rw [if_pos q1]
      by_cases q2 : i &&& sw_ (A 45) 4 1 n = 0
      · rw [if_pos q2, e_X4_cut_J83, jn_s, if_neg ne01]
        obtain ⟨σ1, e1, g1, k1⟩ := c_sis (show i < 1024 by omega) ha hT hC hI
        rw [e1, fh_cb_s, b_all n (by omega)]
        have hsd : sd_ (A 45) n i a < 1024 := sd_lt hn
        simp only [nI_eq (show sd_ (A 45) n i a < 2 ^ 31 by omega) (show 2 ^ n - 1 < 2 ^ 31 by omega)]
        by_cases q3 : sd_ (A 45) n i a = 2 ^ n - 1
        · have hp : (decide (pc_ i = c) && cQ_ (A 45) n a i) = true := by
            unfold cQ_ cP_
            rw [decide_eq_true q1, decide_eq_true q2, decide_eq_true q3]
            rfl
          rw [if_pos q3, if_pos hp]
          refine ⟨fun j e => ?_, fun e => by cases e⟩
          injection e with e
          subst e
          exact ⟨σ1, rfl, g1, fun k hk => k1 k (by omega)⟩
        · have hp : ¬ (decide (pc_ i = c) && cQ_ (A 45) n a i) = true := by
            unfold cQ_ cP_
            rw [decide_eq_false q3, Bool.and_false, Bool.and_false]
            decide
          rw [if_neg q3, if_neg hp, e_X4_cut_J104, nI_1]
          obtain ⟨h1, h2⟩ := ih (i + 1) (by omega) f (by omega) σ1 g1
          refine ⟨fun j e => (h1 j e).bk (fun k hk => k1 k (by omega)), fun e => ?_⟩
          obtain ⟨σ2, w1, w2, w3⟩ := h2 e
          exact ⟨σ2, w1, w2, fun k hk => (w3 k hk).trans (k1 k (by omega))⟩
      · have hp : ¬ (decide (pc_ i = c) && cQ_ (A 45) n a i) = true := by
          unfold cQ_
          rw [decide_eq_false q2, Bool.false_and, Bool.and_false]
          decide
        rw [if_neg q2, next, if_neg hp]
        exact ih (i + 1) (by omega) f (by omega) σ hC
    · have hp : ¬ (decide (pc_ i = c) && cQ_ (A 45) n a i) = true := by
        rw [decide_eq_false q1, Bool.false_and]
        decide
      rw [if_neg q1, next, if_neg hp]
      exact ih (i + 1) (by omega) f (by omega) σ hC
/-- -1 for none -/
def ov : Option Nat → Int32
  | none => -1
  | some m => nI m
theorem n_some {A : fh_S} {j : Nat} (hj : j < 2 ^ 31) : nA A (nI j) = A ∧ nV (nI j) = nI j := by
  have : (0 : Int32) ≤ nI j := nI_le (a := 0) (by omega) hj
  unfold nA nV
  rw [if_pos this, if_pos this]
  exact ⟨rfl, rfl⟩
theorem c_cutO {n T a : Nat} {A : fh_S} (ha : a ≤ 200) (hT : T < 99000) (hI : RI (A 45) n T) : ∀ (k c : Nat), c + k = n + 1 → ∀ fu : Nat, k < fu → ∀ (σ : fh_S), CR σ A →
    cE (fh_fx (ρ := Int32 → fh_S → Option (Int32 × fh_S)) (fun _ _ => none) (f_X4_cut_B40 0 (nI n) (nI a) (nI (sw_ (A 45) 4 1 n))) fu (nI c) σ) σ (nA A (ov (ga_ (cQ_ (A 45) n a) (2 ^ n) k c))) (nV (ov (ga_ (cQ_ (A 45) n a) (2 ^ n) k c))) := by
  have hn := hI.1
  obtain ⟨hM0, hM⟩ := p2_le hn
  intro k
  induction k with
  | zero =>
    intro c hc fu hfu σ hC
    have hsz : σ 1 9 = nI n := by rw [hC.1.1]; exact hI.2.1
    obtain ⟨f, rfl⟩ : ∃ f, fu = f + 1 := ⟨fu - 1, by omega⟩
    rw [fx_s, e_X4_cut_B40, gr_0_0, bd_s, gi_G9 fhG1, bd_s, hsz, if_pos (nI_lt (by omega) (by omega)), cb_id]
    exact c_tell3 hC
  | succ k ih =>
    intro c hc fu hfu σ hC
    have hsz : σ 1 9 = nI n := by rw [hC.1.1]; exact hI.2.1
    obtain ⟨f, rfl⟩ : ∃ f, fu = f + 1 := ⟨fu - 1, by omega⟩
    rw [fx_s, e_X4_cut_B40, gr_0_0, bd_s, gi_G9 fhG1, bd_s, hsz, if_neg (nI_nlt (by omega) (by omega))]
    obtain ⟨h1, h2⟩ := c_cutI (r13 := fh_fx (ρ := Int32 → fh_S → Option (Int32 × fh_S)) (fun _ _ => none) (f_X4_cut_B40 0 (nI n) (nI a) (nI (sw_ (A 45) 4 1 n))) f) ha hT hI (show c ≤ 10 by omega) (2 ^ n) 0 (by omega) fh_fu (by unfold fh_fu; omega) σ hC
    unfold ga_
    split
    · next j e =>
      have := (fi_some _ _ e).2.1
      obtain ⟨a1, a2⟩ := n_some (A := A) (j := j) (by omega)
      unfold ov
      rw [a1, a2]
      exact h1 j e
    · next e =>
      obtain ⟨σ2, w1, w2, w3⟩ := h2 e
      rw [show nI 0 = 0 from rfl] at w1
      rw [w1]
      exact (ih (c + 1) (by omega) f (by omega) σ2 w2).bk w3
theorem r_cutL {n T a : Nat} {A : fh_S} (ha : a ≤ 200) (hI : RI (A 45) n T) : ∀ (k i : Nat), i + k = 2 ^ n → ∀ fu : Nat, k < fu → ∀ (b : Option Nat) (σ : fh_S), (∀ m, b = some m → m < 1024) → RR σ A →
    rE (fh_fx (ρ := Int32 → Int32 → fh_S → Option (Int32 × fh_S)) (fun _ _ _ => none) (f_X5_cut_B33 (nI n) 44 (nI a)) fu (ov b) (nI i) σ) σ (nA A (ov (rb_ (cP_ (A 45) n a) k i b))) (nV (ov (rb_ (cP_ (A 45) n a) k i b))) := by
  have hn := hI.1
  obtain ⟨hM0, hM⟩ := p2_le hn
  intro k
  induction k with
  | zero =>
    intro i hi fu hfu b σ hb hR
    obtain ⟨f, rfl⟩ : ∃ f, fu = f + 1 := ⟨fu - 1, by omega⟩
    rw [fx_s, e_X5_cut_B33, b_all n (by omega), if_pos (nI_lt (by omega) (by omega)), cb_id]
    exact r_n hR _
  | succ k ih =>
    intro i hi fu hfu b σ hb hR
    obtain ⟨f, rfl⟩ : ∃ f, fu = f + 1 := ⟨fu - 1, by omega⟩
    rw [fx_s, e_X5_cut_B33, b_all n (by omega), if_neg (nI_nlt (by omega) (by omega)), jn_s, jn_s]
    unfold rb_
    have hi10 : i < 1024 := by omega
    have tr : bt_ i b = true → rE (f_X5_cut_J55 (f_X5_cut_J60 (fh_fx (ρ := Int32 → Int32 → fh_S → Option (Int32 × fh_S)) (fun _ _ _ => none) (f_X5_cut_B33 (nI n) 44 (nI a)) f) (nI i) (ov b) 44 (nI a) (nI n)) σ) σ (nA A (ov (rb_ (cP_ (A 45) n a) k (i + 1) (if (bt_ i b && cP_ (A 45) n a i) = true then some i else b)))) (nV (ov (rb_ (cP_ (A 45) n a) k (i + 1) (if (bt_ i b && cP_ (A 45) n a i) = true then some i else b)))) := by
      intro hbt
      obtain ⟨τ1, e2, g2, k2⟩ := r_sw hi10 ha hR hI
      rw [e_X5_cut_J55, e_X5_cut_J60, jn_s, jn_s, if_neg ne01, e2, fh_cb_s, b_all n (by omega), hbt, Bool.true_and]
      have hsd : sd_ (A 45) n i a < 1024 := sd_lt hn
      simp only [nI_eq (show sd_ (A 45) n i a < 2 ^ 31 by omega) (show 2 ^ n - 1 < 2 ^ 31 by omega)]
      by_cases q3 : sd_ (A 45) n i a = 2 ^ n - 1
      · have hp : cP_ (A 45) n a i = true := decide_eq_true q3
        rw [if_pos q3, if_pos hp, e_X5_cut_J84, nI_1]
        exact (ih (i + 1) (by omega) f (by omega) (some i) τ1 (fun m e => by injection e with e; omega) g2).bk k2
      · have hp : ¬ cP_ (A 45) n a i = true := fun w => q3 (of_decide_eq_true w)
        rw [if_neg q3, if_neg hp, e_X5_cut_J83, e_X5_cut_J84, nI_1]
        exact (ih (i + 1) (by omega) f (by omega) b τ1 hb g2).bk k2
    cases b with
    | none =>
      rw [if_pos (show ov none < 0 by decide)]
      exact tr rfl
    | some m =>
      have hm := hb m rfl
      rw [if_neg (show ¬ ov (some m) < 0 from nI_nlt (b := 0) (by omega) (by omega)), r_bits hi10, fh_cb_s, show ov (some m) = nI m from rfl, r_bits hm, fh_cb_s]
      have p1 := pc_lt (s := i)
      have p2 := pc_lt (s := m)
      by_cases q : pc_ m ≤ pc_ i
      · have hf : ¬ (bt_ i (some m) && cP_ (A 45) n a i) = true := by
          rw [show bt_ i (some m) = false from decide_eq_false (by omega), Bool.false_and]
          decide
        rw [if_pos (nI_le q (by omega)), e_X5_cut_J60, jn_s, jn_s, if_pos rfl, e_X5_cut_J83, e_X5_cut_J84, nI_1, if_neg hf]
        exact ih (i + 1) (by omega) f (by omega) (some m) σ hb hR
      · rw [if_neg (nI_ge (by omega) (by omega))]
        exact tr (decide_eq_true (by omega))
theorem s_cut (a : Int32) : fh_Stp (f_X4_cut 0 a) (f_X5_cut 44 a) := by
  apply fh_Stp.mk
  intro N A σ τ hN hA hC hR
  obtain ⟨n, hI⟩ := hA.1
  have hn := hI.1
  have hsz : σ 1 9 = nI n := by rw [hC.1.1]; exact hI.2.1
  have hIt : RI (τ 45) n (100 * N) := by rw [hR.1]; exact hI
  obtain ⟨hM0, hM⟩ := p2_le hn
  unfold f_X4_cut f_X5_cut
  simp only [ob_H, ob_M, c_isWithin, r_within, fh_cb_s, cb_id]
  rcases wb_or a 0 100 with q | ⟨q, -⟩
  · rw [q]
    simp only [if_true]
    exact ⟨_, _, hA.tell (by omega), c_tell0 hC, r_find0 hR⟩
  · obtain ⟨k, hk, rfl⟩ := wb_nI (a := a) (h := 100) (by omega) q
    rw [q]
    simp only [ne01, if_false]
    rw [gr_0_0, bd_s, gi_G9 fhG1, bd_s, bd_s, c_stopped fhG1 hC.1 hI, fh_cb_s, hsz, gr_44_0, bd_s, ld_45_1, bd_s, hIt.2.1]
    have eq : ga_ (cQ_ (A 45) n k) (2 ^ n) (n + 1) 0 = rb_ (cP_ (A 45) n k) (2 ^ n) 0 none := by
      have b1 : BM (cP_ (A 45) n k) (2 ^ n) (rb_ (cP_ (A 45) n k) (2 ^ n) 0 none) := by
        have := rb_ok (P := cP_ (A 45) n k) (2 ^ n) 0 none ⟨fun _ j hj => by omega, fun m e => by cases e⟩
        rw [Nat.zero_add] at this
        exact this
      refine b1.uniq (ga_ok (n + 1) 0 (fun s hs _ => ⟨by omega, ?_⟩)) (fun s hs w => ?_) (fun s hs w1 w2 => cut_less hn hs w1 w2)
      · have := pc_n n (by omega) s (by omega) hs
        omega
      · unfold cQ_ at w
        rw [Bool.and_eq_true] at w
        exact w.2
    have h1 := c_cutO (show k ≤ 200 by omega) (show 100 * N < 99000 by omega) hI (n + 1) 0 (by omega) fh_fu (by unfold fh_fu; omega) σ hC
    rw [eq] at h1
    exact ⟨_, _, hA.n _, h1, r_cutL (show k ≤ 200 by omega) hI (2 ^ n) 0 (by omega) fh_fu (by unfold fh_fu; omega) none τ (fun m e => by cases e) hR⟩
