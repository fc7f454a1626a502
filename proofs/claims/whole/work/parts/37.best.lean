/-! ===== cut ===== -/
theorem b_all : ∀ n, n < 11 → ((1 : Int32) <<< (nI n &&& 31)) - 1 = nI (2 ^ n - 1) := by decide +kernel
theorem b_and (s t : Nat) : nI s &&& nI t = nI (s &&& t) := by
  apply Int32.toBitVec_inj.mp
  unfold nI
  simp
theorem pc_n : ∀ n, n < 11 → ∀ s, s < 1024 → s < 2 ^ n → pc_ s ≤ n := by decide +kernel
theorem pc_xor : ∀ d, d < 10 → ∀ s, s < 1024 → s.testBit d = true → pc_ (s ^^^ 2 ^ d) + 1 = pc_ s := by decide +kernel
theorem p2_le {n : Nat} (hn : n ≤ 10) : 0 < 2 ^ n ∧ 2 ^ n ≤ 1024 := ⟨Nat.pow_pos (by omega), show 2 ^ n ≤ 2 ^ 10 from Nat.pow_le_pow_right (by omega) hn⟩
/-- the best of the first i sets -/
def BM (P : Nat → Bool) (i : Nat) (b : Option Nat) : Prop := (b = none → ∀ j, j < i → P j = false) ∧ ∀ m, b = some m → m < i ∧ P m = true ∧ ∀ j, j < i → P j = true → pc_ m < pc_ j ∨ (pc_ m = pc_ j ∧ m ≤ j)
theorem BM.uniq {P Q : Nat → Bool} {M : Nat} {b b' : Option Nat} (h : BM P M b) (h' : BM Q M b') (hQ : ∀ s, s < M → Q s = true → P s = true) (hP : ∀ s, s < M → P s = true → Q s = false → ∃ s', s' < M ∧ P s' = true ∧ pc_ s' < pc_ s) : b' = b := by
  cases b with
  | none =>
    cases b' with
    | none => rfl
    | some m =>
      obtain ⟨h1, h2, -⟩ := h'.2 m rfl
      have := h.1 rfl m h1
      rw [hQ m h1 h2] at this
      exact absurd this (by decide)
  | some m =>
    obtain ⟨h1, h2, h3⟩ := h.2 m rfl
    have q : Q m = true := by
      cases e : Q m with
      | true => rfl
      | false =>
        obtain ⟨s', a1, a2, a3⟩ := hP m h1 h2 e
        have := h3 s' a1 a2
        omega
    cases b' with
    | none =>
      have := h'.1 rfl m h1
      rw [q] at this
      exact absurd this (by decide)
    | some m' =>
      obtain ⟨g1, g2, g3⟩ := h'.2 m' rfl
      have a1 := g3 m h1 q
      have a2 := h3 m' g1 (hQ m' g1 g2)
      congr 1
      omega
def bt_ (i : Nat) : Option Nat → Bool
  | none => true
  | some m => decide (pc_ i < pc_ m)
def rb_ (P : Nat → Bool) : Nat → Nat → Option Nat → Option Nat
  | 0, _, b => b
  | k + 1, i, b => rb_ P k (i + 1) (if (bt_ i b && P i) = true then some i else b)
theorem rb_ok {P : Nat → Bool} : ∀ (k i : Nat) (b : Option Nat), BM P i b → BM P (i + k) (rb_ P k i b) := by
  intro k
  induction k with
  | zero => intro i b h; exact h
  | succ k ih =>
    intro i b h
    unfold rb_
    rw [show i + (k + 1) = i + 1 + k by omega]
    apply ih
    split
    · next q0 =>
      have q : P i = true ∧ (b = none ∨ ∃ m, b = some m ∧ pc_ i < pc_ m) := by
        rw [Bool.and_eq_true] at q0
        refine ⟨q0.2, ?_⟩
        cases b with
        | none => exact Or.inl rfl
        | some m => exact Or.inr ⟨m, rfl, of_decide_eq_true q0.1⟩
      refine ⟨fun e => (by cases e), fun m e => ?_⟩
      injection e with e
      subst e
      refine ⟨by omega, q.1, fun j hj hp => ?_⟩
      rcases Nat.lt_or_ge j i with z | z
      · rcases q.2 with w | ⟨m, w, w2⟩
        · have := h.1 w j z
          rw [hp] at this
          exact absurd this (by decide)
        · have := (h.2 m w).2.2 j z hp
          omega
      · have : j = i := by omega
        subst this
        omega
    · next q0 =>
      have q : ¬ (P i = true ∧ (b = none ∨ ∃ m, b = some m ∧ pc_ i < pc_ m)) := by
        intro q
        apply q0
        rw [Bool.and_eq_true]
        refine ⟨?_, q.1⟩
        rcases q.2 with rfl | ⟨m, rfl, w⟩
        · rfl
        · exact decide_eq_true w
      refine ⟨fun e j hj => ?_, fun m e => ?_⟩
      · rcases Nat.lt_or_ge j i with z | z
        · exact h.1 e j z
        · have : j = i := by omega
          subst this
          cases w : P j with
          | false => rfl
          | true => exact absurd ⟨w, Or.inl e⟩ q
      · obtain ⟨h1, h2, h3⟩ := h.2 m e
        refine ⟨by omega, h2, fun j hj hp => ?_⟩
        rcases Nat.lt_or_ge j i with z | z
        · exact h3 j z hp
        · have : j = i := by omega
          subst this
          have : ¬ pc_ j < pc_ m := fun w => q ⟨hp, Or.inr ⟨m, e, w⟩⟩
          omega
def fi_ (p : Nat → Bool) : Nat → Nat → Option Nat
  | 0, _ => none
  | k + 1, i => if p i = true then some i else fi_ p k (i + 1)
theorem fi_none {p : Nat → Bool} : ∀ (k i : Nat), fi_ p k i = none → ∀ j, i ≤ j → j < i + k → p j = false := by
  intro k
  induction k with
  | zero => intro i _ j h1 h2; omega
  | succ k ih =>
    intro i h j h1 h2
    unfold fi_ at h
    split at h
    · cases h
    · next q =>
      rcases Nat.lt_or_ge i j with z | z
      · exact ih (i + 1) h j (by omega) (by omega)
      · have : j = i := by omega
        subst this
        cases w : p j with
        | false => rfl
        | true => exact absurd w q
theorem fi_some {p : Nat → Bool} {m : Nat} : ∀ (k i : Nat), fi_ p k i = some m → i ≤ m ∧ m < i + k ∧ p m = true ∧ ∀ j, i ≤ j → j < m → p j = false := by
  intro k
  induction k with
  | zero => intro i h; cases h
  | succ k ih =>
    intro i h
    unfold fi_ at h
    split at h
    · next q =>
      injection h with h
      subst h
      exact ⟨by omega, by omega, q, fun j h1 h2 => by omega⟩
    · next q =>
      obtain ⟨h1, h2, h3, h4⟩ := ih (i + 1) h
      refine ⟨by omega, by omega, h3, fun j a1 a2 => ?_⟩
      rcases Nat.lt_or_ge i j with z | z
      · exact h4 j (by omega) a2
      · have : j = i := by omega
        subst this
        cases w : p j with
        | false => rfl
        | true => exact absurd w q
def ga_ (Q : Nat → Bool) (M : Nat) : Nat → Nat → Option Nat
  | 0, _ => none
  | k + 1, c => match fi_ (fun s => decide (pc_ s = c) && Q s) M 0 with
    | some j => some j
    | none => ga_ Q M k (c + 1)
theorem ga_ok {Q : Nat → Bool} {M : Nat} : ∀ (k c : Nat), (∀ s, s < M → Q s = true → c ≤ pc_ s ∧ pc_ s < c + k) → BM Q M (ga_ Q M k c) := by
  intro k
  induction k with
  | zero =>
    intro c h
    refine ⟨fun _ j hj => ?_, fun m e => by cases e⟩
    cases w : Q j with
    | false => rfl
    | true =>
      have := h j hj w
      omega
  | succ k ih =>
    intro c h
    unfold ga_
    split
    · next j e =>
      obtain ⟨h1, h2, h3, h4⟩ := fi_some _ _ e
      refine ⟨fun e => (by cases e), fun m e => ?_⟩
      injection e with e
      subst e
      simp only [Bool.and_eq_true, decide_eq_true_eq] at h3
      refine ⟨by omega, h3.2, fun i hi hq => ?_⟩
      have a1 := h i hi hq
      rcases Nat.lt_or_ge c (pc_ i) with z | z
      · omega
      · refine Or.inr ⟨by omega, ?_⟩
        rcases Nat.lt_or_ge i j with y | y
        · have := h4 i (by omega) y
          simp only [hq, Bool.and_true, decide_eq_false_iff_not] at this
          omega
        · exact y
    · next e =>
      have h4 := fi_none _ _ e
      apply ih
      intro s hs hq
      have a1 := h s hs hq
      have := h4 s (by omega) (by omega)
      simp only [hq, Bool.and_true, decide_eq_false_iff_not] at this
      omega
