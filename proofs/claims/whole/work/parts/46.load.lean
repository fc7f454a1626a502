/-! ===== load ===== -/
def lv_ (m : fh_Rw) (s : Nat) : Nat → Nat → fh_Rw → Nat × fh_Rw
  | 0, i, ρ => (i, ρ)
  | k + 1, i, ρ => if wb (m (40 * s + i)) 0 719 = 0 then (i, ρ) else lv_ m s k (i + 1) (upd ρ (13 + 6 * i + 1) (m (40 * s + i)))
theorem row2 {A : fh_S} {k : Nat} {r r' : fh_Rw} : fh_row (fh_row A k r) k r' = fh_row A k r' := by
  funext a
  by_cases h : a = k
  · subst h
    rw [fh_row_s, fh_row_s]
  · rw [fh_row_n h, fh_row_n h, fh_row_n h]
theorem lv_ok {m : fh_Rw} {s n T : Nat} : ∀ (k i : Nat) (ρ : fh_Rw), i + k ≤ n → RI ρ n T → RI (lv_ m s k i ρ).2 n T := by
  intro k
  induction k with
  | zero => intro i ρ _ h; exact h
  | succ k ih =>
    intro i ρ hi h
    unfold lv_
    split
    · exact h
    · next q =>
      refine ih (i + 1) _ (by omega) (h.set (by omega) (by omega) ?_)
      rcases wb_or (m (40 * s + i)) 0 719 with w | ⟨w, -⟩
      · exact absurd w q
      · obtain ⟨j, hj, e⟩ := wb_nI (a := m (40 * s + i)) (h := 719) (by omega) w
        refine ⟨fun e => absurd e (by omega), fun _ => ⟨j, by omega, e⟩, fun e => absurd e (by omega), fun e => absurd e (by omega), fun e => absurd e (by omega), fun e => absurd e (by omega)⟩
theorem c_loadL {s n z : Nat} (hs : s < 4) (hn : n ≤ 10) (hz : z ≤ n) : ∀ (k i : Nat), i + k = z → ∀ fu : Nat, k < fu → ∀ (σ A : fh_S), CR σ A →
    cE (fh_fx (ρ := Int32 → fh_S → Option (Int32 × fh_S)) (fun _ _ => none) (f_X4_load_B39 (nI z) 0 (nI s)) fu (nI i) σ) σ (fh_row A 45 (lv_ (A 55) s k i (A 45)).2) (nI (lv_ (A 55) s k i (A 45)).1) := by
  intro k
  induction k with
  | zero =>
    intro i hi fu hfu σ A hC
    obtain ⟨f, rfl⟩ : ∃ f, fu = f + 1 := ⟨fu - 1, by omega⟩
    have : i = z := by omega
    subst this
    rw [fx_s, e_X4_load_B39, if_pos (nI_le (by omega) (by omega))]
    unfold lv_
    rw [row_id]
    exact ⟨σ, rfl, hC, fun _ _ => rfl⟩
  | succ k ih =>
    intro i hi fu hfu σ A hC
    obtain ⟨f, rfl⟩ : ∃ f, fu = f + 1 := ⟨fu - 1, by omega⟩
    rw [fx_s, e_X4_load_B39, if_neg (nI_ge (by omega) (by omega)), gr_0_5, bd_s, lr_s hs, bd_s, gr_S0 hs, bd_s, ld_S hs (by omega), bd_s, c_isHour, fh_cb_s, (hC.sh hs).2.2 i (by omega)]
    unfold lv_
    by_cases q : wb (A 55 (40 * s + i)) 0 719 = 0
    · rw [if_pos q, if_pos q, row_id]
      exact ⟨σ, rfl, hC, fun _ _ => rfl⟩
    · rw [if_neg q, if_neg q, gr_0_0, bd_s, gr_G1 fhG1, bd_s, bd_s, lr_s hs, bd_s, gr_S0 hs, bd_s, ld_S hs (by omega), bd_s, st_G2 fhG1 (by omega), bd_s, nI_1, (hC.sh hs).2.2 i (by omega)]
      have hC1 : CR (fs σ (1 + 2) i (A 55 (40 * s + i))) (fh_row A 45 (upd (A 45) (13 + 6 * i + 1) (A 55 (40 * s + i)))) := hC.now (hC.1.st (f := 1) (by omega) (by omega) _) (fun k _ h _ _ => fs_o (by omega))
      have := ih (i + 1) (by omega) f (by omega) _ _ hC1
      rw [row2, fh_row_s, fh_row_n (show 55 ≠ 45 by omega)] at this
      exact this.bk (fun k hk => fs_o (by omega))
