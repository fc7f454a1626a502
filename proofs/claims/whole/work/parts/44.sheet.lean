/-! ===== sheet ===== -/
theorem CR.wid {σ A : fh_S} {s f b : Nat} {v : Int32} (h : CR σ A) (hs : s < 4) (hf : (f = 1 ∧ b = 53) ∨ (f = 2 ∧ b = 54)) : CR (fs σ (35 + 2 * s) f v) (fs A b s v) := by
  obtain ⟨h1, h2, h3, h4, h5, h6, h7⟩ := h
  have hb : b = 53 ∨ b = 54 := by omega
  unfold CR
  rw [fs_o (σ := A) (show 45 ≠ b by omega), fs_o (σ := A) (show 46 ≠ b by omega), fs_o (σ := A) (show 48 ≠ b by omega), fs_o (σ := A) (show 44 ≠ b by omega), fs_o (σ := A) (show 55 ≠ b by omega), fs_o (σ := A) (show 50 ≠ b by omega)]
  refine ⟨h1.mv (fun k _ _ => fs_o (by omega)), fun e => (h2 e).mv (fun k _ _ => fs_o (by omega)), by rw [fs_o (by omega)]; exact h3, fun j hj => by rw [fs_o (by omega)]; exact h4 j hj, by rw [fs_o (by omega)]; exact h5, fun j hj => by rw [fs_o (by omega)]; exact h6 j hj, fun s' hs' => ?_⟩
  obtain ⟨a1, a2, a3⟩ := h7 s' hs'
  rw [fs_o (show 36 + 2 * s' ≠ 35 + 2 * s by omega)]
  refine ⟨?_, ?_, a3⟩
  · rw [fs_at, fs_at]
    rcases hf with ⟨rfl, rfl⟩ | ⟨rfl, rfl⟩
    · by_cases q : s' = s
      · subst q
        simp
      · rw [if_neg (by omega), if_pos rfl, if_neg q]
        exact a1
    · rw [if_neg (show ¬ (53 = 54) by omega), if_neg (show ¬ (1 = 2) by omega), a1]
      split <;> rfl
  · rw [fs_at, fs_at]
    rcases hf with ⟨rfl, rfl⟩ | ⟨rfl, rfl⟩
    · rw [if_neg (show ¬ (54 = 53) by omega), if_neg (show ¬ (2 = 1) by omega), a2]
      split <;> rfl
    · by_cases q : s' = s
      · subst q
        simp
      · rw [if_neg (by omega), if_pos rfl, if_neg q]
        exact a2
theorem RR.wid {σ A : fh_S} {l b : Nat} {v : Int32} (hb : b = 53 ∨ b = 54) (h : RR σ A) : RR (fs σ b l v) (fs A b l v) := by
  obtain ⟨h1, h2, h3, h4, h5, h6, h7, h8, h9⟩ := h
  unfold RR
  simp only [fs_o (show 45 ≠ b by omega), fs_o (show 46 ≠ b by omega), fs_o (show 48 ≠ b by omega), fs_o (show 44 ≠ b by omega), fs_o (show 55 ≠ b by omega), fs_o (show 50 ≠ b by omega)]
  refine ⟨h1, h2, h3, h4, h5, h6, ?_, ?_, h9⟩
  · funext j
    rw [fs_at, fs_at, h7]
  · funext j
    rw [fs_at, fs_at, h8]
theorem AI.wid {A : fh_S} {N l z : Nat} {w : Int32} (h : AI A N) (hw : w = 0 ∨ w = 8 ∨ w = 16 ∨ w = 32) (hz : z ≤ 40) : AI (fs (fs A 53 l w) 54 l (nI z)) N := by
  obtain ⟨h1, h2, h3, h4, h5, h6⟩ := h
  unfold AI
  simp only [fs_o (show 45 ≠ 54 by omega), fs_o (show 46 ≠ 54 by omega), fs_o (show 48 ≠ 54 by omega), fs_o (show 44 ≠ 54 by omega), fs_o (show 53 ≠ 54 by omega), fs_o (show 50 ≠ 54 by omega), fs_o (show 45 ≠ 53 by omega), fs_o (show 46 ≠ 53 by omega), fs_o (show 48 ≠ 53 by omega), fs_o (show 44 ≠ 53 by omega), fs_o (show 50 ≠ 53 by omega)]
  refine ⟨h1, h2, h3, h4, fun s hs => ?_, h6⟩
  obtain ⟨a1, a2⟩ := h5 s hs
  rw [fs_at, fs_at, if_pos rfl, if_pos rfl, fs_o (show 54 ≠ 53 by omega)]
  by_cases q : s = l
  · rw [if_pos q, if_pos q]
    exact ⟨hw, z, hz, rfl⟩
  · rw [if_neg q, if_neg q]
    exact ⟨a1, a2⟩
def zA (s : Nat) : Nat → Nat → fh_S → fh_S
  | 0, _, A => A
  | k + 1, i, A => zA s k (i + 1) (fs A 55 (40 * s + i) 0)
theorem zA_ok {s N : Nat} : ∀ (k i : Nat) (A : fh_S), AI A N → AI (zA s k i A) N := by
  intro k
  induction k with
  | zero => intro i A h; exact h
  | succ k ih => intro i A h; exact ih (i + 1) _ h.num
theorem zA_54 {s : Nat} : ∀ (k i : Nat) (A : fh_S), zA s k i A 54 = A 54 := by
  intro k
  induction k with
  | zero => intro i A; rfl
  | succ k ih =>
    intro i A
    unfold zA
    rw [ih, fs_o (by omega)]
theorem c_layL {s : Nat} (hs : s < 4) : ∀ (k i : Nat), i + k = 40 → ∀ fu : Nat, k < fu → ∀ (σ A : fh_S), CR σ A →
    cE (fh_fx (ρ := Int32 → fh_S → Option (Unit × fh_S)) (fun _ _ => none) (f_X2_layOut_B20 (35 + 2 * s)) fu (nI i) σ) σ (zA s k i A) () := by
  intro k
  induction k with
  | zero =>
    intro i hi fu hfu σ A hC
    obtain ⟨f, rfl⟩ : ∃ f, fu = f + 1 := ⟨fu - 1, by omega⟩
    rw [fx_s, e_X2_layOut_B20, show (40 : Int32) = nI 40 from rfl, if_pos (nI_le (by omega) (by omega))]
    exact ⟨σ, rfl, hC, fun _ _ => rfl⟩
  | succ k ih =>
    intro i hi fu hfu σ A hC
    obtain ⟨f, rfl⟩ : ∃ f, fu = f + 1 := ⟨fu - 1, by omega⟩
    rw [fx_s, e_X2_layOut_B20, show (40 : Int32) = nI 40 from rfl, if_neg (nI_ge (by omega) (by omega)), gr_S0 hs, bd_s, st_S hs (by omega), bd_s, nI_1]
    exact (ih (i + 1) (by omega) f (by omega) _ _ (hC.num hs (by omega))).bk (fun k hk => fs_o (by omega))
theorem r_layL {s : Nat} (hs : s < 4) : ∀ (k i : Nat), i + k = 40 → ∀ fu : Nat, k < fu → ∀ (σ A : fh_S), RR σ A →
    rE (fh_fx (ρ := Int32 → fh_S → Option (Int32 × fh_S)) (fun _ _ => none) (f_X5_sheet_B86 44 (nI s)) fu (nI i) σ) σ (zA s k i A) (A 54 s) := by
  intro k
  induction k with
  | zero =>
    intro i hi fu hfu σ A hR
    obtain ⟨f, rfl⟩ : ∃ f, fu = f + 1 := ⟨fu - 1, by omega⟩
    rw [fx_s, e_X5_sheet_B86, show nI i = nI 40 by rw [show i = 40 by omega], if_pos (show (40 : Int32) ≤ nI 40 by decide), gr_44_18, bd_s, ld_54 hs, bd_s, hR.2.2.2.2.2.2.2.1]
    exact ⟨σ, rfl, hR, fun _ _ => rfl⟩
  | succ k ih =>
    intro i hi fu hfu σ A hR
    obtain ⟨f, rfl⟩ : ∃ f, fu = f + 1 := ⟨fu - 1, by omega⟩
    rw [fx_s, e_X5_sheet_B86, if_neg (show ¬ (40 : Int32) ≤ nI i from nI_ge (b := 40) (by omega) (by omega)), gr_44_19, bd_s, at_55, st_55 (by omega), bd_s, nI_1]
    have := ih (i + 1) (by omega) f (by omega) _ _ (hR.num (l := 40 * s + i) (v := 0))
    rw [fs_o (show 54 ≠ 55 by omega)] at this
    exact this.bk (fun k hk => fs_o (by omega))
