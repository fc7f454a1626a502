/-! ===== text: words ===== -/
def mw_ (b : fh_Rw) (i p : Nat) : Nat → Nat → Bool
  | 0, _ => true
  | k + 1, j => if b (p + j) = wc_ i j then mw_ b i p k (j + 1) else false
def ww_ (b : fh_Rw) (i q : Nat) : Bool := if xts_ b q = 1 then (if xte_ b q - xtb_ b q = fh_sl i then mw_ b i (xtb_ b q) (fh_sl i) 0 else false) else false
theorem mw_iff {b : fh_Rw} {i p : Nat} : ∀ (k j : Nat), mw_ b i p k j = true ↔ ∀ t, t < k → b (p + (j + t)) = wc_ i (j + t)
  | 0, j => by unfold mw_; simp
  | k + 1, j => by
    unfold mw_
    by_cases h : b (p + j) = wc_ i j
    · rw [if_pos h, mw_iff k (j + 1)]
      constructor
      · intro g t ht
        by_cases e : t = 0
        · subst e; exact h
        · have := g (t - 1) (by omega)
          rw [show j + 1 + (t - 1) = j + t by omega] at this
          exact this
      · intro g t ht
        have := g (t + 1) (by omega)
        rw [show j + (t + 1) = j + 1 + t by omega] at this
        exact this
    · rw [if_neg h]
      constructor
      · intro g; cases g
      · intro g; exact absurd (g 0 (by omega)) h
theorem xts_lt {b : fh_Rw} {q : Nat} : xts_ b q < 4 := by
  unfold xts_
  split
  · split
    · split <;> omega
    · omega
  · omega
def TKc (c : fh_Rw) (b : fh_Rw) (q : Nat) : Prop := c 1 = nI (xts_ b q) ∧ c 2 = nI (xtb_ b q) ∧ c 3 = nI (xte_ b q) ∧ (xts_ b q = 2 → c 4 = xtv_ b q)
theorem c_isWL {B : fh_Rw} {l i p : Nat} {σ : fh_S} (hl : l ≤ 120) (hi : i < 26) (hT : TC σ B l) (hp : p ≤ 120) (e : σ 33 2 = nI p) : ∀ (k j : Nat), j + k = fh_sl i → ∀ fu : Nat, k < fu →
    fh_fx (ρ := Int32 → fh_S → Option (Int32 × fh_S)) (fun _ _ => none) (f_X1_isWord_B28 i 33) fu (nI j) σ = some (bi_ (mw_ (xbt_ B l) i p k j), σ) := by
  have hw := w_len i hi
  intro k
  induction k with
  | zero =>
    intro j hj fu hfu
    obtain ⟨f, rfl⟩ : ∃ f, fu = f + 1 := ⟨fu - 1, by omega⟩
    rw [fx_s, e_X1_isWord_B28, j_len hi, fh_cb_s, if_pos (nI_le (by omega) (by omega))]
    rfl
  | succ k ih =>
    intro j hj fu hfu
    obtain ⟨f, rfl⟩ : ∃ f, fu = f + 1 := ⟨fu - 1, by omega⟩
    rw [fx_s, e_X1_isWord_B28, j_len hi, fh_cb_s, if_neg (nI_ge (by omega) (by omega)), gr_33_0, bd_s, gi_33_2, bd_s, e, nI_add, c_byte hl hT (by omega), fh_cb_s, j_chr hi (by omega), fh_cb_s]
    unfold mw_
    by_cases h : xbt_ B l (p + j) = wc_ i j
    · rw [if_pos h, if_pos h, nI_1]
      exact ih (j + 1) (by omega) f (by omega)
    · rw [if_neg h, if_neg h]
      rfl
theorem c_isWord {B : fh_Rw} {l i q : Nat} {σ : fh_S} (hB : hB_ B l) (hi : i < 26) (hT : TC σ B l) (hq : q ≤ l) (hK : TKc (σ 33) (xbt_ B l) q) : f_X1_isWord 33 i σ = some (bi_ (ww_ (xbt_ B l) i q), σ) := by
  have hl := hB.1
  have h1 := xtb_le (B := B) hl hq
  have h2 := xte_le hB hq
  have hw := w_len i hi
  unfold f_X1_isWord ww_
  rw [ob_R, gi_33_1, bd_s, hK.1]
  by_cases q1 : xts_ (xbt_ B l) q = 1
  · rw [if_pos (by rw [q1]; rfl), if_pos q1, gi_33_3, bd_s, gi_33_2, bd_s, j_len hi, fh_cb_s, hK.2.1, hK.2.2.1, pk_sub h2.1]
    by_cases q2 : xte_ (xbt_ B l) q - xtb_ (xbt_ B l) q = fh_sl i
    · rw [if_pos (by rw [q2]), if_pos q2]
      exact c_isWL hl hi hT (by omega) hK.2.1 (fh_sl i) 0 (by omega) fh_fu (by unfold fh_fu; omega)
    · rw [if_neg (fun h => q2 ((nI_eq (by omega) (by omega)).mp h)), if_neg q2]
      rfl
  · rw [if_neg (show ¬ nI (xts_ (xbt_ B l) q) = 1 from fun h => q1 ((nI_eq (b := 1) (by have := xts_lt (b := xbt_ B l) (q := q); omega) (by omega)).mp h)), if_neg q1]
    rfl
theorem r_isWL {B : fh_Rw} {l i p : Nat} {σ : fh_S} (hl : l ≤ 120) (hi : i < 26) (hT : TR σ B l) (hp : p + fh_sl i ≤ l) (e : σ 44 8 = nI p) : ∀ (k j : Nat), j + k = fh_sl i → ∀ fu : Nat, k + 1 < fu →
    fh_fx (ρ := Int32 → Int32 → fh_S → Option (Int32 × fh_S)) (fun _ _ _ => none) (f_X5_isWord_B32 i 44) fu 1 (nI j) σ = some (bi_ (mw_ (xbt_ B l) i p k j), σ) := by
  have hw := w_len i hi
  intro k
  induction k with
  | zero =>
    intro j hj fu hfu
    obtain ⟨f, rfl⟩ : ∃ f, fu = f + 1 := ⟨fu - 1, by omega⟩
    rw [fx_s, e_X5_isWord_B32, j_len hi, fh_cb_s, if_pos (nI_le (by omega) (by omega))]
    rfl
  | succ k ih =>
    intro j hj fu hfu
    obtain ⟨f, rfl⟩ : ∃ f, fu = f + 1 := ⟨fu - 1, by omega⟩
    obtain ⟨f, rfl⟩ : ∃ f', f = f' + 1 := ⟨f - 1, by omega⟩
    rw [fx_s, e_X5_isWord_B32, j_len hi, fh_cb_s, if_neg (nI_ge (by omega) (by omega)), if_neg ne01, gr_44_6, bd_s, gi_44_8, bd_s, e, nI_add, ld_50 (by omega), bd_s, j_chr hi (by omega), fh_cb_s, jn_s, hT.2 _ (by omega)]
    unfold mw_
    rw [xbt_in (by omega)]
    by_cases h : B (p + j) = wc_ i j
    · rw [if_pos h, if_pos h, e_X5_isWord_J68, nI_1]
      exact ih (j + 1) (by omega) (f + 1) (by omega)
    · rw [if_neg h, if_neg h, e_X5_isWord_J68, nI_1, fx_s, e_X5_isWord_B32, j_len hi, fh_cb_s, if_pos (show (0 : Int32) = 0 from rfl), ite_self]
      rfl
theorem r_isWord {B : fh_Rw} {l i q : Nat} {σ : fh_S} (hB : hB_ B l) (hi : i < 26) (hT : TR σ B l) (hq : q ≤ l) (hK : TK (σ 44) (xbt_ B l) q) : f_X5_isWord 44 i σ = some (bi_ (ww_ (xbt_ B l) i q), σ) := by
  have hl := hB.1
  have h1 := xtb_le (B := B) hl hq
  have h2 := xte_le hB hq
  have hw := w_len i hi
  have no : f_X5_isWord_J28 (f_X5_isWord_J29 i 44) σ = some (bi_ false, σ) := by
    rw [e_X5_isWord_J28, e_X5_isWord_J29, show fh_fu = 4999 + 1 from rfl, fx_s, e_X5_isWord_B32, j_len hi, fh_cb_s, if_pos (show (0 : Int32) = 0 from rfl), ite_self]
    rfl
  unfold f_X5_isWord ww_
  rw [ob_M, gi_44_10, bd_s, jn_s, jn_s, hK.1]
  by_cases q1 : xts_ (xbt_ B l) q = 1
  · rw [if_pos (by rw [q1]; rfl), if_pos q1, gi_44_9, bd_s, gi_44_8, bd_s, j_len hi, fh_cb_s, hK.2.1, hK.2.2.1, pk_sub h2.1]
    by_cases q2 : xte_ (xbt_ B l) q - xtb_ (xbt_ B l) q = fh_sl i
    · rw [if_pos (by rw [q2]), if_pos q2, e_X5_isWord_J29]
      exact r_isWL hl hi hT (by omega) hK.2.1 (fh_sl i) 0 (by omega) fh_fu (by unfold fh_fu; omega)
    · rw [if_neg (fun h => q2 ((nI_eq (by omega) (by omega)).mp h)), if_neg q2]
      exact no
  · rw [if_neg (show ¬ nI (xts_ (xbt_ B l) q) = 1 from fun h => q1 ((nI_eq (b := 1) (by have := xts_lt (b := xbt_ B l) (q := q); omega) (by omega)).mp h)), if_neg q1]
    exact no
theorem ww_s {b : fh_Rw} {i q : Nat} (hi : i < 13) : ww_ b (13 + i) q = ww_ b i q := by
  have h1 : ∀ i, i < 13 → fh_tx (13 + i) = fh_tx i := by decide
  have hs : fh_sl (13 + i) = fh_sl i := by unfold fh_sl; rw [h1 i hi]
  have hc : ∀ j, wc_ (13 + i) j = wc_ i j := by intro j; unfold wc_; rw [h1 i hi]
  have hm : ∀ (k j : Nat), mw_ b (13 + i) (xtb_ b q) k j = mw_ b i (xtb_ b q) k j := by
    intro k
    induction k with
    | zero => intro j; rfl
    | succ k ih => intro j; unfold mw_; rw [hc, ih]
  unfold ww_
  rw [hs, hm]
theorem ww_u {b : fh_Rw} {i j q : Nat} (hi : i < 8) (hj : j < 8) (h1 : ww_ b i q = true) (h2 : ww_ b j q = true) : i = j := by
  have key : ∀ i, i < 8 → ∀ j, j < 8 → fh_sl i = fh_sl j → (∀ t, t < 7 → t < fh_sl i → wc_ i t = wc_ j t) → i = j := by decide
  unfold ww_ at h1 h2
  by_cases q1 : xts_ b q = 1
  · rw [if_pos q1] at h1 h2
    by_cases q2 : xte_ b q - xtb_ b q = fh_sl i
    · rw [if_pos q2] at h1
      by_cases q3 : xte_ b q - xtb_ b q = fh_sl j
      · rw [if_pos q3] at h2
        have g1 := (mw_iff _ _).mp h1
        have g2 := (mw_iff _ _).mp h2
        refine key i hi j hj (by omega) (fun t _ ht => ?_)
        have a1 := g1 t ht
        have a2 := g2 t (by omega)
        rw [Nat.zero_add] at a1 a2
        rw [← a1, ← a2]
      · rw [if_neg q3] at h2; cases h2
    · rw [if_neg q2] at h1; cases h1
  · rw [if_neg q1] at h1; cases h1
/-! kinds -/
def kw_ (b : fh_Rw) (q : Nat) : Nat → Nat → Int32
  | 0, _ => -1
  | k + 1, i => if ww_ b i q = true then nI i else kw_ b q k (i + 1)
def kt_ (b : fh_Rw) (q : Nat) : Nat → Nat → Int32 → Int32
  | 0, _, x => x
  | k + 1, i, x => kt_ b q k (i + 1) (if ww_ b (13 + i) q = true then nI i else x)
theorem kt_kw {b : fh_Rw} {q : Nat} : kt_ b q 7 0 (-1) = kw_ b q 7 0 := by
  have u : ∀ i, i < 7 → ∀ j, j < 7 → ww_ b i q = true → i ≠ j → ww_ b j q = false := by
    intro i hi j hj h1 h2
    cases h : ww_ b j q with
    | false => rfl
    | true => exact absurd (ww_u (by omega) (by omega) h1 h) h2
  simp only [kt_, kw_, ww_s (show 0 < 13 by omega), ww_s (show 1 < 13 by omega), ww_s (show 2 < 13 by omega), ww_s (show 3 < 13 by omega), ww_s (show 4 < 13 by omega), ww_s (show 5 < 13 by omega), ww_s (show 6 < 13 by omega), Nat.zero_add, Nat.reduceAdd]
  by_cases h0 : ww_ b 0 q = true
  · simp [h0, u 0 (by omega) 1 (by omega) h0, u 0 (by omega) 2 (by omega) h0, u 0 (by omega) 3 (by omega) h0, u 0 (by omega) 4 (by omega) h0, u 0 (by omega) 5 (by omega) h0, u 0 (by omega) 6 (by omega) h0]
  · by_cases h1 : ww_ b 1 q = true
    · simp [h0, h1, u 1 (by omega) 2 (by omega) h1, u 1 (by omega) 3 (by omega) h1, u 1 (by omega) 4 (by omega) h1, u 1 (by omega) 5 (by omega) h1, u 1 (by omega) 6 (by omega) h1]
    · by_cases h2 : ww_ b 2 q = true
      · simp [h0, h1, h2, u 2 (by omega) 3 (by omega) h2, u 2 (by omega) 4 (by omega) h2, u 2 (by omega) 5 (by omega) h2, u 2 (by omega) 6 (by omega) h2]
      · by_cases h3 : ww_ b 3 q = true
        · simp [h0, h1, h2, h3, u 3 (by omega) 4 (by omega) h3, u 3 (by omega) 5 (by omega) h3, u 3 (by omega) 6 (by omega) h3]
        · by_cases h4 : ww_ b 4 q = true
          · simp [h0, h1, h2, h3, h4, u 4 (by omega) 5 (by omega) h4, u 4 (by omega) 6 (by omega) h4]
          · by_cases h5 : ww_ b 5 q = true
            · simp [h0, h1, h2, h3, h4, h5, u 5 (by omega) 6 (by omega) h5]
            · simp [h0, h1, h2, h3, h4, h5]
theorem kw_or {b : fh_Rw} {q : Nat} : (kw_ b q 7 0 = -1 ∧ ∀ i, i < 7 → ww_ b i q = false) ∨ ∃ i, i < 7 ∧ kw_ b q 7 0 = nI i ∧ ww_ b i q = true := by
  have key : ∀ (k i : Nat), (kw_ b q k i = -1 ∧ ∀ j, i ≤ j → j < i + k → ww_ b j q = false) ∨ ∃ j, i ≤ j ∧ j < i + k ∧ kw_ b q k i = nI j ∧ ww_ b j q = true := by
    intro k
    induction k with
    | zero => intro i; exact Or.inl ⟨rfl, fun j h1 h2 => by omega⟩
    | succ k ih =>
      intro i
      unfold kw_
      by_cases h : ww_ b i q = true
      · rw [if_pos h]; exact Or.inr ⟨i, Nat.le_refl _, by omega, rfl, h⟩
      · rw [if_neg h]
        rcases ih (i + 1) with ⟨e, g⟩ | ⟨j, j1, j2, j3, j4⟩
        · refine Or.inl ⟨e, fun j h1 h2 => ?_⟩
          by_cases w : j = i
          · subst w; exact Bool.eq_false_iff.mpr h
          · exact g j (by omega) (by omega)
        · exact Or.inr ⟨j, by omega, by omega, j3, j4⟩
  rcases key 7 0 with ⟨e, g⟩ | ⟨j, -, j2, j3, j4⟩
  · exact Or.inl ⟨e, fun i hi => g i (by omega) (by omega)⟩
  · exact Or.inr ⟨j, by omega, j3, j4⟩
theorem c_kwL {B : fh_Rw} {l q : Nat} {σ : fh_S} (hB : hB_ B l) (hT : TC σ B l) (hq : q ≤ l) (hK : TKc (σ 33) (xbt_ B l) q) : ∀ (k i : Nat), i + k = 7 → ∀ fu : Nat, k < fu →
    fh_fx (ρ := Int32 → fh_S → Option (Int32 × fh_S)) (fun _ _ => none) (f_X1_kindOfWord_B2 33) fu (nI i) σ = some (kw_ (xbt_ B l) q k i, σ) := by
  have wk : ∀ i, i < 7 → f_X1_wordOfKind (nI i) σ = some (i, σ) := by
    intro i hi
    rcases (show i = 0 ∨ i = 1 ∨ i = 2 ∨ i = 3 ∨ i = 4 ∨ i = 5 ∨ i = 6 by omega) with rfl | rfl | rfl | rfl | rfl | rfl | rfl <;> rfl
  intro k
  induction k with
  | zero =>
    intro i hi fu hfu
    obtain ⟨f, rfl⟩ : ∃ f, fu = f + 1 := ⟨fu - 1, by omega⟩
    rw [fx_s, e_X1_kindOfWord_B2, if_pos (show (7 : Int32) ≤ nI i from nI_le (a := 7) (by omega) (by omega))]
    rfl
  | succ k ih =>
    intro i hi fu hfu
    obtain ⟨f, rfl⟩ : ∃ f, fu = f + 1 := ⟨fu - 1, by omega⟩
    rw [fx_s, e_X1_kindOfWord_B2, if_neg (show ¬ (7 : Int32) ≤ nI i from nI_ge (b := 7) (by omega) (by omega)), wk i (by omega), fh_cb_s, c_isWord hB (by omega) hT hq hK, fh_cb_s, nI_1]
    unfold kw_ bi_
    by_cases h : ww_ (xbt_ B l) i q = true
    · rw [if_pos h, if_neg ne01, if_pos h]
    · rw [if_neg h, if_pos rfl, if_neg h]
      exact ih (i + 1) (by omega) f (by omega)
theorem c_kind {B : fh_Rw} {l q : Nat} {σ : fh_S} (hB : hB_ B l) (hT : TC σ B l) (hq : q ≤ l) (hK : TKc (σ 33) (xbt_ B l) q) : f_X1_kindOfWord 33 σ = some (kw_ (xbt_ B l) q 7 0, σ) := by
  unfold f_X1_kindOfWord
  rw [ob_R]
  exact c_kwL hB hT hq hK 7 0 (by omega) fh_fu (by unfold fh_fu; omega)
theorem r_kwL {B : fh_Rw} {l q : Nat} {σ : fh_S} (hB : hB_ B l) (hT : TR σ B l) (hq : q ≤ l) (hK : TK (σ 44) (xbt_ B l) q) : ∀ (k i : Nat), i + k = 7 → ∀ fu : Nat, k < fu → ∀ x : Int32,
    fh_fx (ρ := Int32 → Int32 → fh_S → Option (Int32 × fh_S)) (fun _ _ _ => none) (f_X5_kindTold_B4 44) fu x (nI i) σ = some (kt_ (xbt_ B l) q k i x, σ) := by
  have ls : ∀ i, i < 7 → fh_ls 51 (nI i) = some (13 + i) := by
    intro i hi
    rcases (show i = 0 ∨ i = 1 ∨ i = 2 ∨ i = 3 ∨ i = 4 ∨ i = 5 ∨ i = 6 by omega) with rfl | rfl | rfl | rfl | rfl | rfl | rfl <;> rfl
  have ln : fh_ln 51 = some 7 := rfl
  intro k
  induction k with
  | zero =>
    intro i hi fu hfu x
    obtain ⟨f, rfl⟩ : ∃ f, fu = f + 1 := ⟨fu - 1, by omega⟩
    rw [fx_s, e_X5_kindTold_B4, gr_44_13, bd_s, ln, bd_s, if_pos (show (7 : Int32) ≤ nI i from nI_le (a := 7) (by omega) (by omega))]
    rfl
  | succ k ih =>
    intro i hi fu hfu x
    obtain ⟨f, rfl⟩ : ∃ f, fu = f + 1 := ⟨fu - 1, by omega⟩
    rw [fx_s, e_X5_kindTold_B4, gr_44_13, bd_s, ln, bd_s, if_neg (show ¬ (7 : Int32) ≤ nI i from nI_ge (b := 7) (by omega) (by omega)), bd_s, ls i (by omega), bd_s, r_isWord hB (by omega) hT hq hK, fh_cb_s, jn_s]
    unfold kt_ bi_
    by_cases h : ww_ (xbt_ B l) (13 + i) q = true
    · rw [if_pos h, if_neg ne01, if_pos h, e_X5_kindTold_J31, nI_1]
      exact ih (i + 1) (by omega) f (by omega) _
    · rw [if_neg h, if_pos rfl, if_neg h, e_X5_kindTold_J31, nI_1]
      exact ih (i + 1) (by omega) f (by omega) _
theorem r_kind {B : fh_Rw} {l q : Nat} {σ : fh_S} (hB : hB_ B l) (hT : TR σ B l) (hq : q ≤ l) (hK : TK (σ 44) (xbt_ B l) q) : f_X5_kindTold 44 σ = some (kw_ (xbt_ B l) q 7 0, σ) := by
  unfold f_X5_kindTold
  rw [ob_M, ← kt_kw]
  exact r_kwL hB hT hq hK 7 0 (by omega) fh_fu (by unfold fh_fu; omega) (-1)
