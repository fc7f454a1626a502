/-! ===== sets as bits ===== -/
theorem b_or : ∀ m, m < 10 → ∀ s, s < 1024 → nI s ||| ((1 : Int32) <<< (nI m &&& 31)) = nI (s ||| 2 ^ m) := by decide +kernel
theorem b_bit : ∀ m, m < 10 → (1 : Int32) <<< (nI m &&& 31) = nI (2 ^ m) := by decide +kernel
theorem b_has : ∀ k, k < 10 → ∀ s, s < 1024 → (((nI s >>> (nI k &&& 31)) &&& 1) = 1 ↔ s.testBit k = true) := by decide +kernel
theorem or_lt {s m : Nat} (hs : s < 1024) (hm : m < 10) : s ||| 2 ^ m < 1024 := Nat.or_lt_two_pow (n := 10) hs (Nat.pow_lt_pow_right (by omega) hm)
theorem tb_or {s m k : Nat} : (s ||| 2 ^ m).testBit k = (s.testBit k || decide (m = k)) := by
  rw [Nat.testBit_or, Nat.testBit_two_pow]
theorem c_isIn {s k : Nat} {σ : fh_S} (hs : s < 1024) (hk : k < 10) : f_X4_isIn (nI s) (nI k) σ = some (if s.testBit k = true then 1 else 0, σ) := by
  unfold f_X4_isIn
  by_cases h : s.testBit k = true
  · rw [if_pos ((b_has k hk s hs).mpr h), if_pos h]; rfl
  · rw [if_neg (fun z => h ((b_has k hk s hs).mp z)), if_neg h]; rfl
theorem r_hasb {s k : Nat} {σ : fh_S} (hs : s < 1024) (hk : k < 10) : f_X5_has (nI s) (nI k) σ = some (if s.testBit k = true then 1 else 0, σ) := by
  unfold f_X5_has
  by_cases h : s.testBit k = true
  · rw [if_pos ((b_has k hk s hs).mpr h), if_pos h]; rfl
  · rw [if_neg (fun z => h ((b_has k hk s hs).mp z)), if_neg h]; rfl
/-- the set of those below n -/
def ms_ (p : Nat → Bool) : Nat → Nat
  | 0 => 0
  | n + 1 => if p n = true then ms_ p n ||| 2 ^ n else ms_ p n
theorem ms_lt {p : Nat → Bool} : ∀ {n : Nat}, n ≤ 10 → ms_ p n < 1024
  | 0, _ => by unfold ms_; omega
  | n + 1, h => by
    unfold ms_
    have := ms_lt (p := p) (show n ≤ 10 by omega)
    split
    · exact or_lt this (by omega)
    · exact this
theorem ms_tb {p : Nat → Bool} {k : Nat} : ∀ {n : Nat}, (ms_ p n).testBit k = (decide (k < n) && p k)
  | 0 => by unfold ms_; simp
  | n + 1 => by
    unfold ms_
    have ih := ms_tb (p := p) (k := k) (n := n)
    by_cases hp : p n = true
    · rw [if_pos hp, tb_or, ih]
      by_cases h1 : k < n
      · simp [h1, show k < n + 1 by omega, show ¬ n = k by omega]
      · by_cases h2 : n = k
        · subst h2; simp [hp]
        · simp [h1, h2, show ¬ k < n + 1 by omega]
    · rw [if_neg hp, ih]
      by_cases h1 : k < n
      · simp [h1, show k < n + 1 by omega]
      · by_cases h2 : n = k
        · subst h2; simp [hp]
        · simp [h1, show ¬ k < n + 1 by omega]
/-! how many bits -/
def pc_ (s : Nat) : Nat := s % 2 + s / 2 % 2 + s / 4 % 2 + s / 8 % 2 + s / 16 % 2 + s / 32 % 2 + s / 64 % 2 + s / 128 % 2 + s / 256 % 2 + s / 512 % 2
def bc1 (a : Int32) : Int32 := (((((((a - (((a.toUInt32 >>> (((1 : Int32)).toUInt32 &&& Int32.toUInt32 31)).toInt32) &&& ((1431655765 : Int32)))) &&& ((858993459 : Int32))) + ((((a - (((a.toUInt32 >>> (((1 : Int32)).toUInt32 &&& Int32.toUInt32 31)).toInt32) &&& ((1431655765 : Int32)))).toUInt32 >>> (((2 : Int32)).toUInt32 &&& Int32.toUInt32 31)).toInt32) &&& ((858993459 : Int32)))) + (((((a - (((a.toUInt32 >>> (((1 : Int32)).toUInt32 &&& Int32.toUInt32 31)).toInt32) &&& ((1431655765 : Int32)))) &&& ((858993459 : Int32))) + ((((a - (((a.toUInt32 >>> (((1 : Int32)).toUInt32 &&& Int32.toUInt32 31)).toInt32) &&& ((1431655765 : Int32)))).toUInt32 >>> (((2 : Int32)).toUInt32 &&& Int32.toUInt32 31)).toInt32) &&& ((858993459 : Int32)))).toUInt32 >>> (((4 : Int32)).toUInt32 &&& Int32.toUInt32 31)).toInt32)) &&& ((252645135 : Int32))) + (((((((a - (((a.toUInt32 >>> (((1 : Int32)).toUInt32 &&& Int32.toUInt32 31)).toInt32) &&& ((1431655765 : Int32)))) &&& ((858993459 : Int32))) + ((((a - (((a.toUInt32 >>> (((1 : Int32)).toUInt32 &&& Int32.toUInt32 31)).toInt32) &&& ((1431655765 : Int32)))).toUInt32 >>> (((2 : Int32)).toUInt32 &&& Int32.toUInt32 31)).toInt32) &&& ((858993459 : Int32)))) + (((((a - (((a.toUInt32 >>> (((1 : Int32)).toUInt32 &&& Int32.toUInt32 31)).toInt32) &&& ((1431655765 : Int32)))) &&& ((858993459 : Int32))) + ((((a - (((a.toUInt32 >>> (((1 : Int32)).toUInt32 &&& Int32.toUInt32 31)).toInt32) &&& ((1431655765 : Int32)))).toUInt32 >>> (((2 : Int32)).toUInt32 &&& Int32.toUInt32 31)).toInt32) &&& ((858993459 : Int32)))).toUInt32 >>> (((4 : Int32)).toUInt32 &&& Int32.toUInt32 31)).toInt32)) &&& ((252645135 : Int32))).toUInt32 >>> (((8 : Int32)).toUInt32 &&& Int32.toUInt32 31)).toInt32)) + ((((((((a - (((a.toUInt32 >>> (((1 : Int32)).toUInt32 &&& Int32.toUInt32 31)).toInt32) &&& ((1431655765 : Int32)))) &&& ((858993459 : Int32))) + ((((a - (((a.toUInt32 >>> (((1 : Int32)).toUInt32 &&& Int32.toUInt32 31)).toInt32) &&& ((1431655765 : Int32)))).toUInt32 >>> (((2 : Int32)).toUInt32 &&& Int32.toUInt32 31)).toInt32) &&& ((858993459 : Int32)))) + (((((a - (((a.toUInt32 >>> (((1 : Int32)).toUInt32 &&& Int32.toUInt32 31)).toInt32) &&& ((1431655765 : Int32)))) &&& ((858993459 : Int32))) + ((((a - (((a.toUInt32 >>> (((1 : Int32)).toUInt32 &&& Int32.toUInt32 31)).toInt32) &&& ((1431655765 : Int32)))).toUInt32 >>> (((2 : Int32)).toUInt32 &&& Int32.toUInt32 31)).toInt32) &&& ((858993459 : Int32)))).toUInt32 >>> (((4 : Int32)).toUInt32 &&& Int32.toUInt32 31)).toInt32)) &&& ((252645135 : Int32))) + (((((((a - (((a.toUInt32 >>> (((1 : Int32)).toUInt32 &&& Int32.toUInt32 31)).toInt32) &&& ((1431655765 : Int32)))) &&& ((858993459 : Int32))) + ((((a - (((a.toUInt32 >>> (((1 : Int32)).toUInt32 &&& Int32.toUInt32 31)).toInt32) &&& ((1431655765 : Int32)))).toUInt32 >>> (((2 : Int32)).toUInt32 &&& Int32.toUInt32 31)).toInt32) &&& ((858993459 : Int32)))) + (((((a - (((a.toUInt32 >>> (((1 : Int32)).toUInt32 &&& Int32.toUInt32 31)).toInt32) &&& ((1431655765 : Int32)))) &&& ((858993459 : Int32))) + ((((a - (((a.toUInt32 >>> (((1 : Int32)).toUInt32 &&& Int32.toUInt32 31)).toInt32) &&& ((1431655765 : Int32)))).toUInt32 >>> (((2 : Int32)).toUInt32 &&& Int32.toUInt32 31)).toInt32) &&& ((858993459 : Int32)))).toUInt32 >>> (((4 : Int32)).toUInt32 &&& Int32.toUInt32 31)).toInt32)) &&& ((252645135 : Int32))).toUInt32 >>> (((8 : Int32)).toUInt32 &&& Int32.toUInt32 31)).toInt32)).toUInt32 >>> (((16 : Int32)).toUInt32 &&& Int32.toUInt32 31)).toInt32)) &&& ((63 : Int32))
theorem j_bc1 {a : Int32} {σ : fh_S} : f_J6_bitCount_0f7a4 a σ = some (bc1 a, σ) := rfl
theorem bc_ok : ∀ s, s < 1024 → bc1 (nI s) = nI (pc_ s) := by decide +kernel
theorem j_bitCount {s : Nat} {σ : fh_S} (hs : s < 1024) : f_J6_bitCount_0f7a4 (nI s) σ = some (nI (pc_ s), σ) := by rw [j_bc1, bc_ok s hs]
def kb_ : Nat → Int32 → Int32 → Option Int32
  | 0, _, _ => none
  | n + 1, c, x => if x = 0 then some c else kb_ n (c + 1) (x &&& (x - 1))
theorem r_bitsL {σ : fh_S} : ∀ (n : Nat) (c x : Int32), fh_fx (ρ := Int32 → Int32 → fh_S → Option (Int32 × fh_S)) (fun _ _ _ => none) f_X5_bits_B4 n c x σ = (kb_ n c x).map (fun v => (v, σ))
  | 0, _, _ => rfl
  | n + 1, c, x => by
    rw [fx_s, e_X5_bits_B4]
    unfold kb_
    split
    · rfl
    · exact r_bitsL n _ _
theorem kb_mono : ∀ (n m : Nat) (c x v : Int32), n ≤ m → kb_ n c x = some v → kb_ m c x = some v
  | 0, _, _, _, _, _, h => by cases h
  | n + 1, m, c, x, v, hm, h => by
    obtain ⟨m', rfl⟩ : ∃ m', m = m' + 1 := ⟨m - 1, by omega⟩
    unfold kb_ at h ⊢
    split at h
    · rename_i q; rw [if_pos q]; exact h
    · rename_i q; rw [if_neg q]; exact kb_mono n m' _ _ _ (by omega) h
theorem kb_ok : ∀ s, s < 1024 → kb_ 12 0 (nI s) = some (nI (pc_ s)) := by decide +kernel
theorem r_bits {s : Nat} {σ : fh_S} (hs : s < 1024) : f_X5_bits (nI s) σ = some (nI (pc_ s), σ) := by
  unfold f_X5_bits
  rw [r_bitsL, kb_mono 12 fh_fu _ _ _ (by unfold fh_fu; omega) (kb_ok s hs)]
  rfl
theorem pc_lt {s : Nat} : pc_ s ≤ 10 := by unfold pc_; omega
/-! ===== pigeons ===== -/
def cn_ (s : Nat) : Nat → Nat
  | 0 => 0
  | n + 1 => cn_ s n + (if s.testBit n = true then 1 else 0)
theorem cn_le {s : Nat} : ∀ n, cn_ s n ≤ n
  | 0 => Nat.le_refl 0
  | n + 1 => by
    unfold cn_
    have := cn_le (s := s) n
    split <;> omega
theorem cn_hi {s m : Nat} : ∀ n, n ≤ m → cn_ (s ||| 2 ^ m) n = cn_ s n
  | 0, _ => rfl
  | n + 1, h => by
    unfold cn_
    rw [cn_hi n (by omega), tb_or]
    simp [show ¬ m = n by omega]
theorem cn_new {s m : Nat} (hm : s.testBit m = false) : ∀ n, m < n → cn_ (s ||| 2 ^ m) n = cn_ s n + 1
  | 0, h => by omega
  | n + 1, h => by
    unfold cn_
    rw [tb_or]
    by_cases e : m = n
    · subst e
      rw [cn_hi m (Nat.le_refl m), hm]
      simp
    · rw [cn_new hm n (by omega)]
      simp only [e, decide_false, Bool.or_false]
      omega
def sF (f : Nat → Nat) : Nat → Nat
  | 0 => 0
  | t + 1 => sF f t ||| 2 ^ (f t)
theorem sF_tb {f : Nat → Nat} {k : Nat} : ∀ t, ((sF f t).testBit k = true ↔ ∃ j, j < t ∧ f j = k)
  | 0 => by unfold sF; simp
  | t + 1 => by
    unfold sF
    rw [tb_or, Bool.or_eq_true, sF_tb t, decide_eq_true_eq]
    constructor
    · rintro (⟨j, h1, h2⟩ | h)
      · exact ⟨j, by omega, h2⟩
      · exact ⟨t, by omega, h⟩
    · rintro ⟨j, h1, h2⟩
      by_cases e : j = t
      · subst e; exact Or.inr h2
      · exact Or.inl ⟨j, by omega, h2⟩
theorem pig {n : Nat} {f : Nat → Nat} (hf : ∀ i, i ≤ n → f i < n) : ∃ i j, i < j ∧ j ≤ n ∧ f i = f j := by
  have key : ∀ t, t ≤ n + 1 → (∃ i j, i < j ∧ j < t ∧ f i = f j) ∨ cn_ (sF f t) n = t := by
    intro t
    induction t with
    | zero => intro _; right; unfold sF; have : ∀ m, cn_ 0 m = 0 := fun m => by
                induction m with
                | zero => rfl
                | succ m ih => unfold cn_; rw [ih]; simp
              exact this n
    | succ t ih =>
      intro ht
      rcases ih (by omega) with ⟨i, j, h1, h2, h3⟩ | h
      · exact Or.inl ⟨i, j, h1, by omega, h3⟩
      · by_cases q : (sF f t).testBit (f t) = true
        · obtain ⟨j, h1, h2⟩ := (sF_tb t).mp q
          exact Or.inl ⟨j, t, h1, by omega, h2⟩
        · right
          unfold sF
          rw [cn_new (by simpa using q) n (hf t (by omega)), h]
  rcases key (n + 1) (Nat.le_refl _) with ⟨i, j, h1, h2, h3⟩ | h
  · exact ⟨i, j, h1, by omega, h3⟩
  · have := cn_le (s := sF f (n + 1)) n
    omega
/-! ===== ways ===== -/
def it_ (μ : Nat → Nat) : Nat → Nat → Nat
  | 0, d => d
  | k + 1, d => μ (it_ μ k d)
theorem it_add {μ : Nat → Nat} {d : Nat} : ∀ a b, it_ μ (a + b) d = it_ μ a (it_ μ b d)
  | 0, b => by rw [Nat.zero_add]; rfl
  | a + 1, b => by
    rw [show a + 1 + b = (a + b) + 1 by omega]
    show μ (it_ μ (a + b) d) = μ (it_ μ a (it_ μ b d))
    rw [it_add a b]
theorem it_lt {μ : Nat → Nat} {n d : Nat} (hμ : ∀ k, k < n → μ k < n) (hd : d < n) : ∀ k, it_ μ k d < n
  | 0 => hd
  | k + 1 => hμ _ (it_lt hμ hd k)
/-- the first t of a way -/
def wy_ (μ : Nat → Nat) (d t : Nat) : Nat := sF (fun i => it_ μ (i + 1) d) t
theorem wy_tb {μ : Nat → Nat} {d t k : Nat} : (wy_ μ d t).testBit k = true ↔ ∃ j, 1 ≤ j ∧ j ≤ t ∧ it_ μ j d = k := by
  unfold wy_
  rw [sF_tb]
  constructor
  · rintro ⟨j, h1, h2⟩; exact ⟨j + 1, by omega, by omega, h2⟩
  · rintro ⟨j, h1, h2, h3⟩; exact ⟨j - 1, by omega, by rw [show j - 1 + 1 = j by omega]; exact h3⟩
theorem wy_all {μ : Nat → Nat} {n d : Nat} (hμ : ∀ k, k < n → μ k < n) (hd : d < n) : ∀ j, 1 ≤ j → ∃ j', 1 ≤ j' ∧ j' ≤ n ∧ it_ μ j' d = it_ μ j d := by
  obtain ⟨a, b, hab, hb, e⟩ := pig (n := n) (f := fun i => it_ μ (i + 1) d) (fun i _ => it_lt hμ hd (i + 1))
  intro j
  induction j using Nat.strongRecOn with
  | ind j ih =>
    intro hj
    by_cases h : j ≤ n
    · exact ⟨j, hj, h, rfl⟩
    · obtain ⟨j', h1, h2, h3⟩ := ih (j - (b - a)) (by omega) (by omega)
      refine ⟨j', h1, h2, ?_⟩
      rw [h3]
      have e1 : it_ μ j d = it_ μ (j - (b + 1)) (it_ μ (b + 1) d) := by rw [← it_add]; congr 1; omega
      have e2 : it_ μ (j - (b - a)) d = it_ μ (j - (b + 1)) (it_ μ (a + 1) d) := by rw [← it_add]; congr 1; omega
      rw [e1, e2]
      exact congrArg _ e
theorem wy_stop {μ : Nat → Nat} {n d t : Nat} (hμ : ∀ k, k < n → μ k < n) (hd : d < n) (ht : t ≤ n) (h : (wy_ μ d t).testBit (it_ μ (t + 1) d) = true) : wy_ μ d t = wy_ μ d n := by
  have all : ∀ j, 1 ≤ j → (wy_ μ d t).testBit (it_ μ j d) = true := by
    intro j
    induction j with
    | zero => intro h; omega
    | succ j ih =>
      intro _
      by_cases hj : j = 0
      · subst hj
        by_cases ht0 : t = 0
        · subst ht0; exact h
        · exact wy_tb.mpr ⟨1, by omega, by omega, rfl⟩
      · obtain ⟨i, h1, h2, h3⟩ := wy_tb.mp (ih (by omega))
        by_cases e : i = t
        · subst e
          have : it_ μ (j + 1) d = it_ μ (i + 1) d := by show μ (it_ μ j d) = μ (it_ μ i d); rw [h3]
          rw [this]; exact h
        · exact wy_tb.mpr ⟨i + 1, by omega, by omega, by show μ (it_ μ i d) = μ (it_ μ j d); rw [h3]⟩
  apply Nat.eq_of_testBit_eq
  intro k
  rw [Bool.eq_iff_iff]
  constructor
  · intro z
    obtain ⟨j, h1, h2, h3⟩ := wy_tb.mp z
    exact wy_tb.mpr ⟨j, h1, by omega, h3⟩
  · intro z
    obtain ⟨j, h1, h2, h3⟩ := wy_tb.mp z
    rw [← h3]
    exact all j h1
theorem wy_lt {μ : Nat → Nat} {n d : Nat} (hn : n ≤ 10) (hμ : ∀ k, k < n → μ k < n) (hd : d < n) : ∀ t, wy_ μ d t < 1024
  | 0 => by unfold wy_ sF; omega
  | t + 1 => by
    have := wy_lt hn hμ hd t
    unfold wy_ at this ⊢
    unfold sF
    exact or_lt this (by have := it_lt hμ hd (t + 1); omega)
/-- the master's number -/
def mu_ (ρ : fh_Rw) (d : Nat) : Nat := (ρ (13 + 6 * d + 2)).toNatClampNeg
theorem RI.mu {ρ : fh_Rw} {n T : Nat} (h : RI ρ n T) : ∀ k, k < n → mu_ ρ k < n := by
  intro k hk
  obtain ⟨m, hm, e⟩ := h.mast hk
  have hn := h.1
  unfold mu_
  rw [e, nI_clamp (by omega)]
  exact hm
theorem RI.mue {ρ : fh_Rw} {n T : Nat} (h : RI ρ n T) {k : Nat} (hk : k < n) : ρ (13 + 6 * k + 2) = nI (mu_ ρ k) := by
  obtain ⟨m, hm, e⟩ := h.mast hk
  have hn := h.1
  unfold mu_
  rw [e, nI_clamp (by omega)]
theorem c_wayL {g n T d : Nat} {σ : fh_S} {ρ : fh_Rw} (hg : fh_G g) (hR : GR g σ ρ) (hI : RI ρ n T) (hd : d < n) : ∀ (k t : Nat), t + k = n → ∀ fu : Nat, k < fu →
    fh_fx (ρ := Int32 → Int32 → Int32 → fh_S → Option (Int32 × fh_S)) (fun _ _ _ _ => none) (f_X0_waySet_B12 g) fu (nI (wy_ (mu_ ρ) d t)) (nI (it_ (mu_ ρ) (t + 1) d)) (nI t) σ = some (nI (wy_ (mu_ ρ) d n), σ) := by
  have hn := hI.1
  have hsz : σ g 9 = nI n := by rw [hR.1]; exact hI.2.1
  intro k
  induction k with
  | zero =>
    intro t ht fu hfu
    obtain ⟨f, rfl⟩ : ∃ f, fu = f + 1 := ⟨fu - 1, by omega⟩
    obtain rfl : t = n := by omega
    rw [fx_s, e_X0_waySet_B12]
    simp only [gi_G9 hg, bd_s, hsz]
    rw [if_pos (nI_le (by omega) (by omega))]
  | succ k ih =>
    intro t ht fu hfu
    obtain ⟨f, rfl⟩ : ∃ f, fu = f + 1 := ⟨fu - 1, by omega⟩
    have hm := it_lt hI.mu hd (t + 1)
    rw [fx_s, e_X0_waySet_B12]
    simp only [gi_G9 hg, bd_s, hsz]
    rw [if_neg (nI_ge (by omega) (by omega)), gr_G2 hg, bd_s, ld_G3 hg (by omega), bd_s, hR.f2 (by omega), hI.mue hm, b_or _ (by omega) _ (wy_lt hn hI.mu hd t), nI_1]
    exact ih (t + 1) (by omega) f (by omega)
theorem c_way {g n T d : Nat} {σ : fh_S} {ρ : fh_Rw} (hg : fh_G g) (hR : GR g σ ρ) (hI : RI ρ n T) (hd : d < n) : f_X0_waySet g (nI d) σ = some (nI (wy_ (mu_ ρ) d n), σ) := by
  have hn := hI.1
  unfold f_X0_waySet
  rw [ob_G hg, gr_G2 hg, bd_s, ld_G3 hg (by omega), bd_s, hR.f2 (by omega), hI.mue hd]
  exact c_wayL hg hR hI hd n 0 (by omega) fh_fu (by unfold fh_fu; omega)
theorem r_wayL {n T d : Nat} {σ : fh_S} (hI : RI (σ 45) n T) (hd : d < n) : ∀ (k t : Nat), t + k = n → ∀ fu : Nat, k < fu →
    fh_fx (ρ := Int32 → Int32 → fh_S → Option (Int32 × fh_S)) (fun _ _ _ => none) (f_X5_wayOf_B9 44) fu (nI (wy_ (mu_ (σ 45)) d t)) (nI (it_ (mu_ (σ 45)) (t + 1) d)) σ = some (nI (wy_ (mu_ (σ 45)) d n), σ) := by
  have hn := hI.1
  intro k
  induction k with
  | zero =>
    intro t ht fu hfu
    obtain ⟨f, rfl⟩ : ∃ f, fu = f + 1 := ⟨fu - 1, by omega⟩
    obtain rfl : t = n := by omega
    have hm := it_lt hI.mu hd (t + 1)
    rw [fx_s, e_X5_wayOf_B9, r_hasb (wy_lt hn hI.mu hd t) (by omega), fh_cb_s]
    obtain ⟨j, h1, h2, h3⟩ := wy_all hI.mu hd (t + 1) (by omega)
    rw [if_pos (wy_tb.mpr ⟨j, h1, h2, h3⟩), if_neg (by decide)]
  | succ k ih =>
    intro t ht fu hfu
    obtain ⟨f, rfl⟩ : ∃ f, fu = f + 1 := ⟨fu - 1, by omega⟩
    have hm := it_lt hI.mu hd (t + 1)
    rw [fx_s, e_X5_wayOf_B9, r_hasb (wy_lt hn hI.mu hd t) (by omega), fh_cb_s]
    by_cases q : (wy_ (mu_ (σ 45)) d t).testBit (it_ (mu_ (σ 45)) (t + 1) d) = true
    · rw [if_pos q, if_neg (by decide), wy_stop hI.mu hd (by omega) q]
    · rw [if_neg q, if_pos rfl, r_is2 (by omega), fh_cb_s, hI.mue hm, b_or _ (by omega) _ (wy_lt hn hI.mu hd t)]
      exact ih (t + 1) (by omega) f (by omega)
theorem r_way {n T d : Nat} {σ : fh_S} (hI : RI (σ 45) n T) (hd : d < n) : f_X5_wayOf 44 (nI d) σ = some (nI (wy_ (mu_ (σ 45)) d n), σ) := by
  have hn := hI.1
  unfold f_X5_wayOf
  rw [ob_M, r_is2 (by omega), fh_cb_s, hI.mue hd]
  exact r_wayL hI hd n 0 (by omega) fh_fu (by unfold fh_fu; omega)
/-! rings -/
theorem it_per {μ : Nat → Nat} {n d : Nat} (hμ : ∀ k, k < n → μ k < n) (hd : d < n) : ∃ p, 1 ≤ p ∧ it_ μ p (it_ μ n d) = it_ μ n d := by
  obtain ⟨a, b, hab, hb, e⟩ := pig (n := n) (f := fun i => it_ μ i d) (fun i _ => it_lt hμ hd i)
  refine ⟨b - a, by omega, ?_⟩
  have e : it_ μ a d = it_ μ b d := e
  have e1 : it_ μ n d = it_ μ (n - b) (it_ μ b d) := by rw [← it_add]; congr 1; omega
  have e2 : it_ μ (b - a) (it_ μ n d) = it_ μ (n - b) (it_ μ b (it_ μ (b - a) d)) := by rw [← it_add, ← it_add, ← it_add]; congr 1; omega
  rw [e2]
  have e3 : it_ μ b (it_ μ (b - a) d) = it_ μ b d := by
    rw [← it_add, show b + (b - a) = (b - a) + b by omega, it_add, ← e, ← it_add, show b - a + a = b by omega]
    exact e.symm
  rw [e3, ← e1]
theorem per_step {μ : Nat → Nat} {x p : Nat} (hp : 1 ≤ p) (h : it_ μ p x = x) : it_ μ p (μ x) = μ x := by
  have : it_ μ p (it_ μ 1 x) = it_ μ 1 x := by rw [← it_add, show p + 1 = 1 + p by omega, it_add, h]
  exact this
theorem it_1 {μ : Nat → Nat} {x : Nat} : it_ μ 1 x = μ x := rfl
theorem wy_ring1 {μ : Nat → Nat} {n x : Nat} (hμ : ∀ k, k < n → μ k < n) (hx : x < n) {p : Nat} (hp : 1 ≤ p) (h : it_ μ p x = x) : wy_ μ (μ x) n = wy_ μ x n := by
  apply Nat.eq_of_testBit_eq
  intro k
  rw [Bool.eq_iff_iff]
  constructor
  · intro z
    obtain ⟨j, h1, h2, h3⟩ := wy_tb.mp z
    rw [← it_1 (μ := μ) (x := x), ← it_add] at h3
    obtain ⟨j', q1, q2, q3⟩ := wy_all hμ hx (j + 1) (by omega)
    exact wy_tb.mpr ⟨j', q1, q2, q3.trans h3⟩
  · intro z
    obtain ⟨j, h1, h2, h3⟩ := wy_tb.mp z
    have e : it_ μ (j + p - 1) (μ x) = k := by
      rw [← it_1 (μ := μ) (x := x), ← it_add, show j + p - 1 + 1 = j + p by omega, it_add, h, h3]
    obtain ⟨j', q1, q2, q3⟩ := wy_all hμ (hμ x hx) (j + p - 1) (by omega)
    exact wy_tb.mpr ⟨j', q1, q2, q3.trans e⟩
theorem per_it {μ : Nat → Nat} {x p : Nat} (hp : 1 ≤ p) (h : it_ μ p x = x) : ∀ q, it_ μ p (it_ μ q x) = it_ μ q x
  | 0 => h
  | q + 1 => per_step hp (per_it hp h q)
theorem wy_ring {μ : Nat → Nat} {n x : Nat} (hμ : ∀ k, k < n → μ k < n) (hx : x < n) {p : Nat} (hp : 1 ≤ p) (h : it_ μ p x = x) : ∀ q, wy_ μ (it_ μ q x) n = wy_ μ x n
  | 0 => rfl
  | q + 1 => (wy_ring1 hμ (it_lt hμ hx q) hp (per_it hp h q)).trans (wy_ring hμ hx hp h q)
def rg_ (μ : Nat → Nat) (n d : Nat) : Nat := wy_ μ (it_ μ n d) n
theorem rg_10 {μ : Nat → Nat} {n d : Nat} (hn : n ≤ 10) (hμ : ∀ k, k < n → μ k < n) (hd : d < n) : wy_ μ (it_ μ 10 d) n = rg_ μ n d := by
  obtain ⟨p, hp, e⟩ := it_per hμ hd
  unfold rg_
  rw [show (10 : Nat) = (10 - n) + n by omega, it_add]
  exact wy_ring hμ (it_lt hμ hd n) hp e (10 - n)
theorem c_ringL {g n T d : Nat} {σ : fh_S} {ρ : fh_Rw} (hg : fh_G g) (hR : GR g σ ρ) (hI : RI ρ n T) (hd : d < n) : ∀ (k t : Nat), t + k = n → ∀ fu : Nat, k < fu →
    fh_fx (ρ := Int32 → Int32 → fh_S → Option (Int32 × fh_S)) (fun _ _ _ => none) (f_X0_ringSet_B4 g) fu (nI (it_ (mu_ ρ) t d)) (nI t) σ = some (nI (rg_ (mu_ ρ) n d), σ) := by
  have hn := hI.1
  have hsz : σ g 9 = nI n := by rw [hR.1]; exact hI.2.1
  intro k
  induction k with
  | zero =>
    intro t ht fu hfu
    obtain ⟨f, rfl⟩ : ∃ f, fu = f + 1 := ⟨fu - 1, by omega⟩
    obtain rfl : t = n := by omega
    rw [fx_s, e_X0_ringSet_B4]
    simp only [gi_G9 hg, bd_s, hsz]
    rw [if_pos (nI_le (by omega) (by omega)), c_way hg hR hI (it_lt hI.mu hd t), fh_cb_s]
    rfl
  | succ k ih =>
    intro t ht fu hfu
    obtain ⟨f, rfl⟩ : ∃ f, fu = f + 1 := ⟨fu - 1, by omega⟩
    have hm := it_lt hI.mu hd t
    rw [fx_s, e_X0_ringSet_B4]
    simp only [gi_G9 hg, bd_s, hsz]
    rw [if_neg (nI_ge (by omega) (by omega)), gr_G2 hg, bd_s, ld_G3 hg (by omega), bd_s, hR.f2 (by omega), hI.mue hm, nI_1]
    exact ih (t + 1) (by omega) f (by omega)
theorem c_ring {g n T d : Nat} {σ : fh_S} {ρ : fh_Rw} (hg : fh_G g) (hR : GR g σ ρ) (hI : RI ρ n T) (hd : d < n) : f_X0_ringSet g (nI d) σ = some (nI (rg_ (mu_ ρ) n d), σ) := by
  have hn := hI.1
  unfold f_X0_ringSet
  rw [ob_G hg]
  exact c_ringL hg hR hI hd n 0 (by omega) fh_fu (by unfold fh_fu; omega)
theorem r_ringL {n T d : Nat} {σ : fh_S} (hI : RI (σ 45) n T) (hd : d < n) : ∀ (k t : Nat), t + k = 10 → ∀ fu : Nat, k < fu →
    fh_fx (ρ := Int32 → Int32 → fh_S → Option (Int32 × fh_S)) (fun _ _ _ => none) (f_X5_ringOf_B4 44) fu (nI (it_ (mu_ (σ 45)) t d)) (nI t) σ = some (nI (rg_ (mu_ (σ 45)) n d), σ) := by
  have hn := hI.1
  intro k
  induction k with
  | zero =>
    intro t ht fu hfu
    obtain ⟨f, rfl⟩ : ∃ f, fu = f + 1 := ⟨fu - 1, by omega⟩
    obtain rfl : t = 10 := by omega
    rw [fx_s, e_X5_ringOf_B4, if_pos (by decide), r_way hI (it_lt hI.mu hd 10), fh_cb_s, rg_10 hn hI.mu hd]
  | succ k ih =>
    intro t ht fu hfu
    obtain ⟨f, rfl⟩ : ∃ f, fu = f + 1 := ⟨fu - 1, by omega⟩
    have hm := it_lt hI.mu hd t
    rw [fx_s, e_X5_ringOf_B4, show (10 : Int32) = nI 10 from rfl, if_neg (nI_ge (by omega) (by omega)), r_is2 (by omega), fh_cb_s, hI.mue hm, nI_1]
    exact ih (t + 1) (by omega) f (by omega)
theorem r_ring {n T d : Nat} {σ : fh_S} (hI : RI (σ 45) n T) (hd : d < n) : f_X5_ringOf 44 (nI d) σ = some (nI (rg_ (mu_ (σ 45)) n d), σ) := by
  unfold f_X5_ringOf
  rw [ob_M]
  exact r_ringL hI hd 10 0 (by omega) fh_fu (by unfold fh_fu; omega)
