/-! ===== text: tokens ===== -/
def xbt_ (B : fh_Rw) (l : Nat) : fh_Rw := fun j => if j < l then B j else -1
def xsk_ (b : fh_Rw) : Nat → Nat → Nat
  | 0, p => p
  | k + 1, p => if b p = 32 then xsk_ b k (p + 1) else p
def xle_ (b : fh_Rw) : Nat → Nat → Nat
  | 0, p => p
  | k + 1, p => if wb (b p) 97 122 = 0 then p else xle_ b k (p + 1)
def xdg_ (b : fh_Rw) : Nat → Nat → Int32 → Nat × Int32
  | 0, p, v => (p, v)
  | k + 1, p, v => if wb (b p) 48 57 = 0 then (p, v) else xdg_ b k (p + 1) (mn_ 1000 (10 * v + b p - 48))
def xtb_ (b : fh_Rw) (p : Nat) : Nat := xsk_ b (121 - p) p
def xts_ (b : fh_Rw) (p : Nat) : Nat := if 0 ≤ b (xtb_ b p) then (if wb (b (xtb_ b p)) 97 122 = 0 then (if wb (b (xtb_ b p)) 48 57 = 0 then 3 else 2) else 1) else 0
def xte_ (b : fh_Rw) (p : Nat) : Nat := if 0 ≤ b (xtb_ b p) then (if wb (b (xtb_ b p)) 97 122 = 0 then (if wb (b (xtb_ b p)) 48 57 = 0 then xtb_ b p + 1 else (xdg_ b (121 - xtb_ b p) (xtb_ b p) 0).1) else xle_ b (121 - xtb_ b p) (xtb_ b p)) else xtb_ b p
def xtv_ (b : fh_Rw) (p : Nat) : Int32 := (xdg_ b (121 - xtb_ b p) (xtb_ b p) 0).2
/-- a tape: its bytes -/
def hB_ (B : fh_Rw) (l : Nat) : Prop := l ≤ 120 ∧ ∀ j, j < 120 → ∃ x, x < 256 ∧ B j = nI x
theorem xbt_out {B : fh_Rw} {l j : Nat} (h : l ≤ j) : xbt_ B l j = -1 := by unfold xbt_; rw [if_neg (by omega)]
theorem xbt_in {B : fh_Rw} {l j : Nat} (h : j < l) : xbt_ B l j = B j := by unfold xbt_; rw [if_pos h]
theorem wb_out {a b : Int32} (ha : 0 ≤ a) : wb (-1) a b = 0 := by
  unfold wb
  rw [if_pos]
  have := i32_nn.mp ha
  rw [Int32.lt_iff_toInt_lt, show (-1 : Int32).toInt = -1 from rfl]
  omega
theorem xsk_le {B : fh_Rw} {l : Nat} (hl : l ≤ 120) : ∀ (k p : Nat), p + k = 121 → p ≤ l → p ≤ xsk_ (xbt_ B l) k p ∧ xsk_ (xbt_ B l) k p ≤ l := by
  intro k
  induction k with
  | zero => intro p h1 h2; omega
  | succ k ih =>
    intro p h1 h2
    unfold xsk_
    split
    · next h =>
      by_cases e : p = l
      · subst e; rw [xbt_out (Nat.le_refl _)] at h; exact absurd h (by decide)
      · have := ih (p + 1) (by omega) (by omega)
        omega
    · omega
theorem xle_le {B : fh_Rw} {l : Nat} (hl : l ≤ 120) : ∀ (k p : Nat), p + k = 121 → p ≤ l → p ≤ xle_ (xbt_ B l) k p ∧ xle_ (xbt_ B l) k p ≤ l ∧ (¬ wb (xbt_ B l p) 97 122 = 0 → p < xle_ (xbt_ B l) k p) := by
  intro k
  induction k with
  | zero => intro p h1 h2; omega
  | succ k ih =>
    intro p h1 h2
    unfold xle_
    split
    · next h => exact ⟨Nat.le_refl _, h2, fun h' => absurd h h'⟩
    · next h =>
      by_cases e : p = l
      · subst e; rw [xbt_out (Nat.le_refl _), wb_out (by decide)] at h; exact absurd rfl h
      · have := ih (p + 1) (by omega) (by omega)
        omega
theorem xdg_v {x y : Nat} (hx : x ≤ 1000) (hy : y < 10) : ∃ z, z ≤ 1000 ∧ mn_ 1000 (10 * nI x + nI (48 + y) - 48) = nI z := by
  have : (10 : Int32) * nI x + nI (48 + y) - 48 = nI (10 * x + y) := by
    rw [show (10 : Int32) = nI 10 from rfl, pk_mul, nI_add, show (48 : Int32) = nI 48 from rfl, pk_sub (by omega)]
    congr 1
    omega
  rw [this]
  unfold mn_
  split
  · next h =>
    refine ⟨10 * x + y, ?_, rfl⟩
    have := (nI_ltI (a := 10 * x + y) (b := 1000) (by omega) (by omega)).mp h
    omega
  · exact ⟨1000, Nat.le_refl _, rfl⟩
theorem xdg_le {B : fh_Rw} {l : Nat} (hB : hB_ B l) : ∀ (k p x : Nat), p + k = 121 → p ≤ l → x ≤ 1000 → p ≤ (xdg_ (xbt_ B l) k p (nI x)).1 ∧ (xdg_ (xbt_ B l) k p (nI x)).1 ≤ l ∧ (¬ wb (xbt_ B l p) 48 57 = 0 → p < (xdg_ (xbt_ B l) k p (nI x)).1) ∧ ∃ y, y ≤ 1000 ∧ (xdg_ (xbt_ B l) k p (nI x)).2 = nI y := by
  have hl := hB.1
  intro k
  induction k with
  | zero => intro p x h1 h2; omega
  | succ k ih =>
    intro p x h1 h2 hx
    unfold xdg_
    split
    · next h => exact ⟨Nat.le_refl _, h2, fun h' => absurd h h', x, hx, rfl⟩
    · next h =>
      by_cases e : p = l
      · subst e; rw [xbt_out (Nat.le_refl _), wb_out (by decide)] at h; exact absurd rfl h
      · obtain ⟨c, hc, ec⟩ := hB.2 p (by omega)
        have h9 : 48 ≤ c ∧ c ≤ 57 := by
          rcases wb_or (xbt_ B l p) 48 57 with q | ⟨-, q1, q2⟩
          · exact absurd q h
          · rw [xbt_in (by omega), ec] at q1 q2
            exact ⟨(nI_leI (a := 48) (by omega) (by omega)).mp q1, (nI_leI (b := 57) (by omega) (by omega)).mp q2⟩
        obtain ⟨z, hz, ez⟩ := xdg_v (x := x) (y := c - 48) hx (by omega)
        rw [show 48 + (c - 48) = c by omega] at ez
        rw [xbt_in (show p < l by omega), ec, ez]
        have := ih (p + 1) z (by omega) (by omega) hz
        obtain ⟨a1, a2, a3, a4⟩ := this
        exact ⟨by omega, a2, fun _ => by omega, a4⟩
theorem xtb_le {B : fh_Rw} {l p : Nat} (hl : l ≤ 120) (hp : p ≤ l) : p ≤ xtb_ (xbt_ B l) p ∧ xtb_ (xbt_ B l) p ≤ l := xsk_le hl _ _ (by omega) hp
theorem xtk_neg {B : fh_Rw} {l q : Nat} (hB : hB_ B l) (hq : q ≤ l) : 0 ≤ xbt_ B l q ↔ q < l := by
  constructor
  · intro h
    apply Nat.lt_of_le_of_ne hq
    intro e
    rw [xbt_out (by omega)] at h
    exact absurd h (by decide)
  · intro h
    have hl := hB.1
    obtain ⟨x, hx, e⟩ := hB.2 q (by omega)
    rw [xbt_in h, e]
    exact nI_pos' (by omega)
theorem xte_le {B : fh_Rw} {l p : Nat} (hB : hB_ B l) (hp : p ≤ l) : xtb_ (xbt_ B l) p ≤ xte_ (xbt_ B l) p ∧ xte_ (xbt_ B l) p ≤ l ∧ (¬ xts_ (xbt_ B l) p = 0 → xtb_ (xbt_ B l) p < xte_ (xbt_ B l) p) := by
  have h1 := xtb_le (B := B) hB.1 hp
  have h2 := xtk_neg hB h1.2
  have h3 := xle_le (B := B) hB.1 (121 - xtb_ (xbt_ B l) p) (xtb_ (xbt_ B l) p) (by have := hB.1; omega) h1.2
  have h4 := xdg_le hB (121 - xtb_ (xbt_ B l) p) (xtb_ (xbt_ B l) p) 0 (by have := hB.1; omega) h1.2 (by omega)
  rw [nI_0] at h4
  obtain ⟨d1, d2, d3, -⟩ := h4
  unfold xte_ xts_
  by_cases q0 : 0 ≤ xbt_ B l (xtb_ (xbt_ B l) p)
  · rw [if_pos q0, if_pos q0]
    have := h2.mp q0
    by_cases q1 : wb (xbt_ B l (xtb_ (xbt_ B l) p)) 97 122 = 0
    · rw [if_pos q1, if_pos q1]
      by_cases q2 : wb (xbt_ B l (xtb_ (xbt_ B l) p)) 48 57 = 0
      · rw [if_pos q2]; omega
      · rw [if_neg q2]; exact ⟨d1, d2, fun _ => d3 q2⟩
    · rw [if_neg q1, if_neg q1]; exact ⟨h3.1, h3.2.1, fun _ => h3.2.2 q1⟩
  · rw [if_neg q0, if_neg q0]
    exact ⟨Nat.le_refl _, h1.2, fun h => absurd rfl h⟩
theorem xtv_ok {B : fh_Rw} {l p : Nat} (hB : hB_ B l) (hp : p ≤ l) : ∃ y, y ≤ 1000 ∧ xtv_ (xbt_ B l) p = nI y := by
  have h1 := xtb_le (B := B) hB.1 hp
  have h4 := xdg_le hB (121 - xtb_ (xbt_ B l) p) (xtb_ (xbt_ B l) p) 0 (by have := hB.1; omega) h1.2 (by omega)
  rw [nI_0] at h4
  exact h4.2.2.2
theorem xts_0 {B : fh_Rw} {l p : Nat} (hB : hB_ B l) (hp : p ≤ l) : xts_ (xbt_ B l) p = 0 ↔ xtb_ (xbt_ B l) p = l := by
  have h1 := xtb_le (B := B) hB.1 hp
  have h2 := xtk_neg hB h1.2
  unfold xts_
  by_cases q0 : 0 ≤ xbt_ B l (xtb_ (xbt_ B l) p)
  · rw [if_pos q0]
    have := h2.mp q0
    constructor
    · intro h
      split at h
      · split at h <;> omega
      · omega
    · omega
  · rw [if_neg q0]
    have : ¬ xtb_ (xbt_ B l) p < l := fun h => q0 (h2.mpr h)
    constructor
    · omega
    · intro _; rfl
/-! the class's reader -/
def TC (σ : fh_S) (B : fh_Rw) (l : Nat) : Prop := σ 31 1 = nI l ∧ ∀ j, j < 120 → σ 32 j = B j
theorem TC.mv {σ σ' : fh_S} {B : fh_Rw} {l : Nat} (h : TC σ B l) (h1 : σ' 31 = σ 31) (h2 : σ' 32 = σ 32) : TC σ' B l := by
  unfold TC
  rw [h1, h2]
  exact h
theorem c_byte {σ : fh_S} {B : fh_Rw} {l j : Nat} (hl : l ≤ 120) (h : TC σ B l) (hj : j < 1000) : f_X3_byteAt 31 (nI j) σ = some (xbt_ B l j, σ) := by
  unfold f_X3_byteAt
  rw [ob_T, if_neg (nI_pos (by omega)), gi_31_1, bd_s, h.1]
  by_cases q : l ≤ j
  · rw [if_pos (nI_le q (by omega)), xbt_out q]
  · rw [if_neg (nI_ge (by omega) (by omega)), gr_31_0, bd_s, ld_32 (by omega), bd_s, h.2 j (by omega), xbt_in (by omega)]
theorem c_letter {a : Int32} {σ : fh_S} : f_X1_isLetter a σ = some (wb a 97 122, σ) := by
  unfold f_X1_isLetter wb
  split
  · rfl
  · split <;> rfl
theorem c_digit {a : Int32} {σ : fh_S} : f_X1_isDigit a σ = some (wb a 48 57, σ) := by
  unfold f_X1_isDigit wb
  split
  · rfl
  · split <;> rfl
theorem c_skL {B : fh_Rw} {l : Nat} (hl : l ≤ 120) : ∀ (k p : Nat), p + k = 121 → p ≤ l → ∀ fu : Nat, k < fu → ∀ σ : fh_S, TC σ B l → σ 33 2 = nI p →
    ∃ σ', fh_fx (ρ := fh_S → Option (Unit × fh_S)) (fun _ => none) (f_X1_findToken_B8 33) fu σ = f_X1_findToken_J46 33 σ' ∧ σ' 33 2 = nI (xsk_ (xbt_ B l) k p) ∧ (∀ j, j ≠ 2 → σ' 33 j = σ 33 j) ∧ ∀ a, a ≠ 33 → σ' a = σ a := by
  intro k
  induction k with
  | zero => intro p h1 h2; omega
  | succ k ih =>
    intro p h1 h2 fu hfu σ hT e
    obtain ⟨f, rfl⟩ : ∃ f, fu = f + 1 := ⟨fu - 1, by omega⟩
    rw [fx_s, e_X1_findToken_B8, gi_33_2, bd_s, jn_s, e]
    unfold xsk_
    by_cases q : 120 ≤ p
    · rw [if_pos (show (120 : Int32) ≤ nI p from nI_le (a := 120) q (by omega)), xbt_out (by omega), if_neg (by decide)]
      exact ⟨σ, rfl, e, fun _ _ => rfl, fun _ _ => rfl⟩
    · rw [if_neg (show ¬ (120 : Int32) ≤ nI p from nI_ge (b := 120) (by omega) (by omega)), gr_33_0, bd_s, bd_s, c_byte hl hT (by omega), fh_cb_s]
      by_cases w : xbt_ B l p = 32
      · have hp : p < l := by
          apply Nat.lt_of_le_of_ne h2
          intro z
          rw [xbt_out (by omega)] at w
          exact absurd w (by decide)
        rw [if_pos w, if_pos w, gi_33_2, bd_s, pf_33_2, bd_s, e, nI_1]
        obtain ⟨σ', e1, a1, a2, a3⟩ := ih (p + 1) (by omega) (by omega) f (by omega) (fs σ 33 2 (nI (p + 1))) (hT.mv (fs_o (by omega)) (fs_o (by omega))) fs_s
        exact ⟨σ', e1, a1, fun j hj => by rw [a2 j hj, fs_ne hj], fun a ha => by rw [a3 a ha, fs_o ha]⟩
      · rw [if_neg w, if_neg w]
        exact ⟨σ, rfl, e, fun _ _ => rfl, fun _ _ => rfl⟩
theorem c_leL {B : fh_Rw} {l : Nat} (hl : l ≤ 120) : ∀ (k p : Nat), p + k = 121 → p ≤ l → ∀ fu : Nat, k < fu → ∀ σ : fh_S, TC σ B l → σ 33 3 = nI p →
    ∃ σ', fh_fx (ρ := fh_S → Option (Unit × fh_S)) (fun _ => none) (f_X1_readLetters_B0 33) fu σ = some ((), σ') ∧ σ' 33 3 = nI (xle_ (xbt_ B l) k p) ∧ (∀ j, j ≠ 3 → σ' 33 j = σ 33 j) ∧ ∀ a, a ≠ 33 → σ' a = σ a := by
  intro k
  induction k with
  | zero => intro p h1 h2; omega
  | succ k ih =>
    intro p h1 h2 fu hfu σ hT e
    obtain ⟨f, rfl⟩ : ∃ f, fu = f + 1 := ⟨fu - 1, by omega⟩
    rw [fx_s, e_X1_readLetters_B0, gi_33_3, bd_s, e]
    unfold xle_
    by_cases q : 120 ≤ p
    · rw [if_pos (show (120 : Int32) ≤ nI p from nI_le (a := 120) q (by omega)), xbt_out (by omega), wb_out (by decide), if_pos rfl]
      exact ⟨σ, rfl, e, fun _ _ => rfl, fun _ _ => rfl⟩
    · rw [if_neg (show ¬ (120 : Int32) ≤ nI p from nI_ge (b := 120) (by omega) (by omega)), gr_33_0, bd_s, bd_s, c_byte hl hT (by omega), fh_cb_s, c_letter, fh_cb_s]
      by_cases w : wb (xbt_ B l p) 97 122 = 0
      · rw [if_pos w, if_pos w]
        exact ⟨σ, rfl, e, fun _ _ => rfl, fun _ _ => rfl⟩
      · have hp : p < l := by
          apply Nat.lt_of_le_of_ne h2
          intro z
          rw [xbt_out (by omega), wb_out (by decide)] at w
          exact w rfl
        rw [if_neg w, if_neg w, gi_33_3, bd_s, pf_33_3, bd_s, e, nI_1]
        obtain ⟨σ', e1, a1, a2, a3⟩ := ih (p + 1) (by omega) (by omega) f (by omega) (fs σ 33 3 (nI (p + 1))) (hT.mv (fs_o (by omega)) (fs_o (by omega))) fs_s
        exact ⟨σ', e1, a1, fun j hj => by rw [a2 j hj, fs_ne hj], fun a ha => by rw [a3 a ha, fs_o ha]⟩
theorem c_dgL {B : fh_Rw} {l : Nat} (hl : l ≤ 120) : ∀ (k p : Nat), p + k = 121 → p ≤ l → ∀ fu : Nat, k < fu → ∀ (v : Int32) (σ : fh_S), TC σ B l → σ 33 3 = nI p → σ 33 4 = v →
    ∃ σ', fh_fx (ρ := fh_S → Option (Unit × fh_S)) (fun _ => none) (f_X1_readDigits_B5 33) fu σ = some ((), σ') ∧ σ' 33 3 = nI (xdg_ (xbt_ B l) k p v).1 ∧ σ' 33 4 = (xdg_ (xbt_ B l) k p v).2 ∧ (∀ j, j ≠ 3 → j ≠ 4 → σ' 33 j = σ 33 j) ∧ ∀ a, a ≠ 33 → σ' a = σ a := by
  intro k
  induction k with
  | zero => intro p h1 h2; omega
  | succ k ih =>
    intro p h1 h2 fu hfu v σ hT e ev
    obtain ⟨f, rfl⟩ : ∃ f, fu = f + 1 := ⟨fu - 1, by omega⟩
    rw [fx_s, e_X1_readDigits_B5, gi_33_3, bd_s, e]
    unfold xdg_
    by_cases q : 120 ≤ p
    · rw [if_pos (show (120 : Int32) ≤ nI p from nI_le (a := 120) q (by omega)), xbt_out (by omega), wb_out (by decide), if_pos rfl]
      exact ⟨σ, rfl, e, ev, fun _ _ _ => rfl, fun _ _ => rfl⟩
    · rw [if_neg (show ¬ (120 : Int32) ≤ nI p from nI_ge (b := 120) (by omega) (by omega)), gr_33_0, bd_s, bd_s, c_byte hl hT (by omega), fh_cb_s, c_digit, fh_cb_s]
      by_cases w : wb (xbt_ B l p) 48 57 = 0
      · rw [if_pos w, if_pos w]
        exact ⟨σ, rfl, e, ev, fun _ _ _ => rfl, fun _ _ => rfl⟩
      · have hp : p < l := by
          apply Nat.lt_of_le_of_ne h2
          intro z
          rw [xbt_out (by omega), wb_out (by decide)] at w
          exact w rfl
        rw [if_neg w, if_neg w, gi_33_4, bd_s, bd_s, gi_33_3, bd_s, e, c_byte hl hT (by omega), fh_cb_s, j_min, fh_cb_s, pf_33_4, bd_s, gi_33_3, bd_s, pf_33_3, bd_s, fs_ne (show 3 ≠ 4 by omega), e, ev, nI_1]
        obtain ⟨σ', e1, a1, a2, a3, a4⟩ := ih (p + 1) (by omega) (by omega) f (by omega) (mn_ 1000 (10 * v + xbt_ B l p - 48)) (fs (fs σ 33 4 (mn_ 1000 (10 * v + xbt_ B l p - 48))) 33 3 (nI (p + 1))) (hT.mv (by rw [fs_o (by omega), fs_o (by omega)]) (by rw [fs_o (by omega), fs_o (by omega)])) fs_s (by rw [fs_ne (by omega), fs_s])
        exact ⟨σ', e1, a1, a2, fun j h3 h4 => by rw [a3 j h3 h4, fs_ne h3, fs_ne h4], fun a ha => by rw [a4 a ha, fs_o ha, fs_o ha]⟩
theorem c_find {B : fh_Rw} {l q : Nat} {σ : fh_S} (hl : l ≤ 120) (hT : TC σ B l) (hq : q ≤ l) (e : σ 33 3 = nI q) :
    ∃ σ', f_X1_findToken 33 σ = some ((), σ') ∧ (σ' 33 1 = nI (xts_ (xbt_ B l) q) ∧ σ' 33 2 = nI (xtb_ (xbt_ B l) q) ∧ σ' 33 3 = nI (xte_ (xbt_ B l) q) ∧ (xts_ (xbt_ B l) q = 2 → σ' 33 4 = xtv_ (xbt_ B l) q)) ∧ σ' 33 5 = σ 33 5 ∧ ∀ a, a ≠ 33 → σ' a = σ a := by
  have h1 := xtb_le (B := B) hl hq
  unfold f_X1_findToken
  rw [ob_R, gi_33_3, bd_s, pf_33_2, bd_s, e]
  obtain ⟨σ1, e1, a1, a2, a3⟩ := c_skL (B := B) hl (121 - q) q (by omega) hq fh_fu (by unfold fh_fu; omega) (fs σ 33 2 (nI q)) (hT.mv (fs_o (by omega)) (fs_o (by omega))) fs_s
  have b1 : σ1 33 2 = nI (xtb_ (xbt_ B l) q) := a1
  have a5 : σ1 33 5 = σ 33 5 := by rw [a2 5 (by omega), fs_ne (by omega)]
  have a0 : ∀ a, a ≠ 33 → σ1 a = σ a := fun a ha => by rw [a3 a ha, fs_o ha]
  have hT1 : TC σ1 B l := hT.mv (a0 31 (by omega)) (a0 32 (by omega))
  have hT2 : TC (fs σ1 33 3 (nI (xtb_ (xbt_ B l) q))) B l := hT1.mv (fs_o (by omega)) (fs_o (by omega))
  rw [e1, e_X1_findToken_J46, gi_33_2, bd_s, pf_33_3, bd_s, gr_33_0, bd_s, gi_33_2, bd_s, fs_ne (show 2 ≠ 3 by omega), b1, c_byte hl hT2 (by omega), fh_cb_s]
  unfold xts_ xte_ xtv_
  by_cases q0 : 0 ≤ xbt_ B l (xtb_ (xbt_ B l) q)
  · rw [if_pos q0, c_letter, fh_cb_s, if_pos q0, if_pos q0]
    by_cases q1 : wb (xbt_ B l (xtb_ (xbt_ B l) q)) 97 122 = 0
    · rw [if_pos q1, c_digit, fh_cb_s, if_pos q1, if_pos q1]
      by_cases q2 : wb (xbt_ B l (xtb_ (xbt_ B l) q)) 48 57 = 0
      · rw [if_pos q2, if_pos q2, if_pos q2, pf_33_1, bd_s, gi_33_3, bd_s, pf_33_3, bd_s, fs_ne (show 3 ≠ 1 by omega), fs_s, nI_1]
        refine ⟨_, rfl, ⟨by rw [fs_ne (by omega), fs_s]; rfl, by rw [fs_ne (by omega), fs_ne (by omega), fs_ne (by omega)]; exact b1, fs_s, fun h => by omega⟩, by rw [fs_ne (by omega), fs_ne (by omega), fs_ne (by omega)]; exact a5, fun a ha => by rw [fs_o ha, fs_o ha, fs_o ha]; exact a0 a ha⟩
      · rw [if_neg q2, if_neg q2, if_neg q2, pf_33_1, bd_s]
        unfold f_X1_readDigits
        rw [ob_R, pf_33_4, bd_s]
        obtain ⟨σ2, e2, c1, c2, c3, c4⟩ := c_dgL (B := B) hl (121 - xtb_ (xbt_ B l) q) (xtb_ (xbt_ B l) q) (by omega) h1.2 fh_fu (by unfold fh_fu; omega) 0 (fs (fs (fs σ1 33 3 (nI (xtb_ (xbt_ B l) q))) 33 1 2) 33 4 0) (hT2.mv (by rw [fs_o (by omega), fs_o (by omega)]) (by rw [fs_o (by omega), fs_o (by omega)])) (by rw [fs_ne (by omega), fs_ne (by omega), fs_s]) fs_s
        rw [e2, fh_cb_s]
        exact ⟨σ2, rfl, ⟨by rw [c3 1 (by omega) (by omega), fs_ne (by omega), fs_s]; rfl, by rw [c3 2 (by omega) (by omega), fs_ne (by omega), fs_ne (by omega), fs_ne (by omega)]; exact b1, c1, fun _ => c2⟩, by rw [c3 5 (by omega) (by omega), fs_ne (by omega), fs_ne (by omega), fs_ne (by omega)]; exact a5, fun a ha => by rw [c4 a ha, fs_o ha, fs_o ha, fs_o ha]; exact a0 a ha⟩
    · rw [if_neg q1, if_neg q1, if_neg q1, pf_33_1, bd_s]
      unfold f_X1_readLetters
      rw [ob_R]
      obtain ⟨σ2, e2, c1, c3, c4⟩ := c_leL (B := B) hl (121 - xtb_ (xbt_ B l) q) (xtb_ (xbt_ B l) q) (by omega) h1.2 fh_fu (by unfold fh_fu; omega) (fs (fs σ1 33 3 (nI (xtb_ (xbt_ B l) q))) 33 1 1) (hT2.mv (fs_o (by omega)) (fs_o (by omega))) (by rw [fs_ne (by omega), fs_s])
      rw [e2, fh_cb_s]
      exact ⟨σ2, rfl, ⟨by rw [c3 1 (by omega), fs_s]; rfl, by rw [c3 2 (by omega), fs_ne (by omega), fs_ne (by omega)]; exact b1, c1, fun h => by omega⟩, by rw [c3 5 (by omega), fs_ne (by omega), fs_ne (by omega)]; exact a5, fun a ha => by rw [c4 a ha, fs_o ha, fs_o ha]; exact a0 a ha⟩
  · rw [if_neg q0, if_neg q0, if_neg q0, pf_33_1, bd_s]
    refine ⟨_, rfl, ⟨fs_s, by rw [fs_ne (by omega), fs_ne (by omega)]; exact b1, by rw [fs_ne (by omega), fs_s], fun h => by omega⟩, by rw [fs_ne (by omega), fs_ne (by omega)]; exact a5, fun a ha => by rw [fs_o ha, fs_o ha]; exact a0 a ha⟩
