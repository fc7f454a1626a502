/-! ===== the reference's tick ===== -/
def tp_ (i : Nat) (ρ : fh_Rw) : fh_Rw := fun j => if 13 ≤ j ∧ j < 13 + 6 * i then (if (j - 13) % 6 = 3 then ng_ ρ ((j - 13) / 6) else if (j - 13) % 6 = 1 then rd_ (ρ j + ng_ ρ ((j - 13) / 6)) else ρ j) else ρ j
theorem tp_0 {ρ : fh_Rw} : tp_ 0 ρ = ρ := by
  funext j
  unfold tp_
  rw [if_neg (by omega)]
theorem tp_o {i j : Nat} {ρ : fh_Rw} (h : j < 13 ∨ 13 + 6 * i ≤ j) : tp_ i ρ j = ρ j := by
  unfold tp_
  rw [if_neg (by omega)]
theorem tp_tk {n : Nat} {ρ : fh_Rw} : upd (tp_ n ρ) 0 (ρ 0 + 1) = tk_ n ρ := by
  funext j
  unfold upd tk_ tp_
  by_cases h : j = 0 <;> simp [h]
theorem tp_s {i : Nat} {ρ : fh_Rw} : upd (upd (tp_ i ρ) (13 + 6 * i + 3) (ng_ ρ i)) (13 + 6 * i + 1) (rd_ (ρ (13 + 6 * i + 1) + ng_ ρ i)) = tp_ (i + 1) ρ := by
  funext j
  by_cases h1 : j = 13 + 6 * i + 1
  · subst h1
    rw [pk_us]
    unfold tp_
    rw [if_pos (by omega), show (13 + 6 * i + 1 - 13) % 6 = 1 by omega, show (13 + 6 * i + 1 - 13) / 6 = i by omega, if_neg (by omega), if_pos rfl]
  · rw [pk_un h1]
    by_cases h3 : j = 13 + 6 * i + 3
    · subst h3
      rw [pk_us]
      unfold tp_
      rw [if_pos (by omega), show (13 + 6 * i + 3 - 13) % 6 = 3 by omega, show (13 + 6 * i + 3 - 13) / 6 = i by omega, if_pos rfl]
    · rw [pk_un h3]
      unfold tp_
      by_cases q : 13 ≤ j ∧ j < 13 + 6 * i
      · rw [if_pos q, if_pos (show 13 ≤ j ∧ j < 13 + 6 * (i + 1) by omega)]
      · rw [if_neg q]
        by_cases q2 : 13 ≤ j ∧ j < 13 + 6 * (i + 1)
        · rw [if_pos q2, if_neg (by omega), if_neg (by omega)]
        · rw [if_neg q2]
theorem fs_row {σ : fh_S} {k j : Nat} {v : Int32} : fs σ k j v k = upd (σ k) j v := by unfold fs; exact fh_row_s
theorem r_tick1 {n T : Nat} {σ0 : fh_S} (hI : RI (σ0 45) n T) : ∀ (k i : Nat), i + k = n → ∀ fu : Nat, k < fu → ∀ σ, (∀ j, j < i → σ 49 j = ng_ (σ0 45) j) → (∀ a, a ≠ 49 → σ a = σ0 a) →
    ∃ σ', fh_fx (ρ := Int32 → fh_S → Option (Unit × fh_S)) (fun _ _ => none) (f_X5_tick_B2 44) fu (nI i) σ = fh_fx (ρ := Int32 → fh_S → Option (Unit × fh_S)) (fun _ _ => none) (f_X5_tick_B43 44) fh_fu 0 σ' ∧ (∀ j, j < n → σ' 49 j = ng_ (σ0 45) j) ∧ ∀ a, a ≠ 49 → σ' a = σ0 a := by
  have hn := hI.1
  intro k
  induction k with
  | zero =>
    intro i hi fu hfu σ hj ha
    obtain ⟨m, rfl⟩ : ∃ m, fu = m + 1 := ⟨fu - 1, by omega⟩
    refine ⟨σ, ?_, fun j h => hj j (by omega), ha⟩
    rw [fx_s, e_X5_tick_B2]
    simp only [gr_44_0, bd_s, ld_45_1]
    rw [ha 45 (by omega), hI.2.1, if_pos (nI_le (by omega) (by omega))]
  | succ k ih =>
    intro i hi fu hfu σ hj ha
    obtain ⟨m, rfl⟩ : ∃ m, fu = m + 1 := ⟨fu - 1, by omega⟩
    have hi10 : i < 10 := by omega
    have h45 : σ 45 = σ0 45 := ha 45 (by omega)
    have hI' : RI (σ 45) n T := by rw [h45]; exact hI
    rw [fx_s, e_X5_tick_B2]
    simp only [gr_44_0, bd_s, ld_45_1]
    rw [hI'.2.1, if_neg (nI_ge (by omega) (by omega)), gr_44_5, bd_s, r_stopped hi10, fh_cb_s, jn_s, h45]
    have step : ∀ v, v = ng_ (σ0 45) i → ∃ σ', f_X5_tick_J34 49 (nI i) (fh_fx (ρ := Int32 → fh_S → Option (Unit × fh_S)) (fun _ _ => none) (f_X5_tick_B2 44) m) v σ = fh_fx (ρ := Int32 → fh_S → Option (Unit × fh_S)) (fun _ _ => none) (f_X5_tick_B43 44) fh_fu 0 σ' ∧ (∀ j, j < n → σ' 49 j = ng_ (σ0 45) j) ∧ ∀ a, a ≠ 49 → σ' a = σ0 a := by
      intro v hv
      rw [e_X5_tick_J34]
      simp only [st_49 hi10, bd_s, nI_1]
      refine ih (i + 1) (by omega) m (by omega) _ (fun j h => ?_) (fun a h => by rw [fs_o h]; exact ha a h)
      by_cases e : j = i
      · subst e; rw [fs_s]; exact hv
      · rw [fs_ne e]; exact hj j (by omega)
    by_cases hs : σ0 45 (13 + 6 * i + 4) = 1
    · rw [if_pos hs, if_neg (by decide)]
      exact step 0 (by unfold ng_; rw [if_pos hs])
    · rw [if_neg hs, if_pos rfl, r_pace hI' (by omega), fh_cb_s]
      exact step _ (by unfold ng_; rw [if_neg hs, h45])
theorem r_tick2 {n T : Nat} {σ0 : fh_S} (hI : RI (σ0 45) n T) (hN : ∀ j, j < n → σ0 49 j = ng_ (σ0 45) j) : ∀ (k i : Nat), i + k = n → ∀ fu : Nat, k < fu → ∀ σ, (∀ a, a ≠ 45 → σ a = σ0 a) → σ 45 = tp_ i (σ0 45) →
    ∃ σ', fh_fx (ρ := Int32 → fh_S → Option (Unit × fh_S)) (fun _ _ => none) (f_X5_tick_B43 44) fu (nI i) σ = some ((), σ') ∧ σ' 45 = tk_ n (σ0 45) ∧ ∀ a, a ≠ 45 → σ' a = σ0 a := by
  have hn := hI.1
  intro k
  induction k with
  | zero =>
    intro i hi fu hfu σ ha h45
    obtain ⟨m, rfl⟩ : ∃ m, fu = m + 1 := ⟨fu - 1, by omega⟩
    obtain rfl : i = n := by omega
    rw [fx_s, e_X5_tick_B43]
    simp only [gr_44_0, bd_s, ld_45_1, ld_45_0, st_45_0]
    rw [h45, tp_o (by omega), tp_o (by omega), hI.2.1, if_pos (nI_le (by omega) (by omega))]
    refine ⟨_, rfl, ?_, fun a h => by rw [fs_o h]; exact ha a h⟩
    rw [fs_row, h45]
    exact tp_tk
  | succ k ih =>
    intro i hi fu hfu σ ha h45
    obtain ⟨m, rfl⟩ : ∃ m, fu = m + 1 := ⟨fu - 1, by omega⟩
    have hi10 : i < 10 := by omega
    have h49 : σ 49 i = ng_ (σ0 45) i := by rw [ha 49 (by omega)]; exact hN i (by omega)
    rw [fx_s, e_X5_tick_B43]
    simp only [gr_44_0, gr_44_5, bd_s, ld_45_1]
    rw [show σ 45 1 = nI n by rw [h45, tp_o (by omega)]; exact hI.2.1, if_neg (nI_ge (by omega) (by omega))]
    unfold f_X5_at
    simp only [fh_cb_s, at_3, at_1, ld_49 hi10, bd_s, h49]
    rw [st_45 (by omega), bd_s, r_is1 hi10, fh_cb_s, fs_o (show 49 ≠ 45 by omega), h49, r_round, fh_cb_s, st_45 (by omega), bd_s, nI_1]
    refine ih (i + 1) (by omega) m (by omega) _ (fun a h => by rw [fs_o h, fs_o h]; exact ha a h) ?_
    rw [fs_row, fs_row, h45, pk_un (by omega), tp_o (by omega)]
    exact tp_s
/-- the reference's tick -/
theorem r_tick {n T : Nat} {σ : fh_S} (hI : RI (σ 45) n T) : ∃ σ', f_X5_tick 44 σ = some ((), σ') ∧ σ' 45 = tk_ n (σ 45) ∧ ∀ a, a ≠ 45 → a ≠ 49 → σ' a = σ a := by
  have hn := hI.1
  unfold f_X5_tick
  rw [ob_M]
  obtain ⟨σ1, e1, hN1, ha1⟩ := r_tick1 hI n 0 (by omega) fh_fu (by unfold fh_fu; omega) σ (fun j h => by omega) (fun a _ => rfl)
  have h45 : σ1 45 = σ 45 := ha1 45 (by omega)
  obtain ⟨σ2, e2, hR2, ha2⟩ := r_tick2 (σ0 := σ1) (by rw [h45]; exact hI) (by rw [h45]; exact hN1) n 0 (by omega) fh_fu (by unfold fh_fu; omega) σ1 (fun a _ => rfl) tp_0.symm
  exact ⟨σ2, e1.trans e2, by rw [hR2, h45], fun a h1 h2 => by rw [ha2 a h1]; exact ha1 a h2⟩
/-! ===== many ticks ===== -/
def tN_ (n : Nat) : Nat → fh_Rw → fh_Rw
  | 0, ρ => ρ
  | k + 1, ρ => tN_ n k (tk_ n ρ)
theorem RI.ticks {n : Nat} : ∀ (k T : Nat) {ρ : fh_Rw}, RI ρ n T → RI (tN_ n k ρ) n (T + k)
  | 0, _, _, h => h
  | k + 1, T, ρ, h => by
    have := RI.ticks k (T + 1) h.tick
    rw [show T + (k + 1) = T + 1 + k by omega]
    exact this
theorem tN_s {n : Nat} : ∀ (k : Nat) (ρ : fh_Rw), tN_ n (k + 1) ρ = tk_ n (tN_ n k ρ)
  | 0, _ => rfl
  | k + 1, ρ => tN_s k (tk_ n ρ)
theorem c_ticksL {g n : Nat} (hg : fh_G g) {a : Nat} (ha : a < 1000) : ∀ (k i T : Nat), i + k = a → T + k < 99999 → ∀ fu : Nat, k < fu → ∀ (σ : fh_S) (ρ : fh_Rw), GR g σ ρ → RI ρ n T →
    ∃ σ', fh_fx (ρ := Int32 → fh_S → Option (Unit × fh_S)) (fun _ _ => none) (f_X0_passTicks_B2 (nI a) g) fu (nI i) σ = some ((), σ') ∧ GR g σ' (tN_ n k ρ) ∧ ∀ b, ¬ (g ≤ b ∧ b < g + 10) → σ' b = σ b := by
  intro k
  induction k with
  | zero =>
    intro i T hi hT fu hfu σ ρ hR hI
    obtain ⟨m, rfl⟩ : ∃ m, fu = m + 1 := ⟨fu - 1, by omega⟩
    rw [fx_s, e_X0_passTicks_B2, if_pos (nI_le (by omega) (by omega))]
    exact ⟨σ, rfl, hR, fun _ _ => rfl⟩
  | succ k ih =>
    intro i T hi hT fu hfu σ ρ hR hI
    obtain ⟨m, rfl⟩ : ∃ m, fu = m + 1 := ⟨fu - 1, by omega⟩
    obtain ⟨σ1, e1, hR1, ha1⟩ := c_tick hg hR hI (by omega)
    rw [fx_s, e_X0_passTicks_B2, if_neg (nI_ge (by omega) (by omega)), e1, fh_cb_s, nI_1]
    obtain ⟨σ2, e2, hR2, ha2⟩ := ih (i + 1) (T + 1) (by omega) (by omega) m (by omega) σ1 (tk_ n ρ) hR1 hI.tick
    exact ⟨σ2, e2, hR2, fun b hb => by rw [ha2 b hb]; exact ha1 b hb⟩
theorem c_ticks {g n T a : Nat} {σ : fh_S} {ρ : fh_Rw} (hg : fh_G g) (hR : GR g σ ρ) (hI : RI ρ n T) (ha : a ≤ 200) (hT : T < 99000) : ∃ σ', f_X0_passTicks g (nI a) σ = some ((), σ') ∧ GR g σ' (tN_ n a ρ) ∧ ∀ b, ¬ (g ≤ b ∧ b < g + 10) → σ' b = σ b := by
  unfold f_X0_passTicks
  rw [ob_G hg]
  exact c_ticksL hg (by omega) a 0 T (by omega) (by omega) fh_fu (by unfold fh_fu; omega) σ ρ hR hI
theorem r_ticksL {n : Nat} {a : Nat} (ha : a < 1000) : ∀ (k i T : Nat), i + k = a → ∀ fu : Nat, k < fu → ∀ (σ : fh_S), RI (σ 45) n T →
    ∃ σ', fh_fx (ρ := Int32 → fh_S → Option (Unit × fh_S)) (fun _ _ => none) (f_X5_ticks_B2 (nI a) 44) fu (nI i) σ = some ((), σ') ∧ σ' 45 = tN_ n k (σ 45) ∧ ∀ b, b ≠ 45 → b ≠ 49 → σ' b = σ b := by
  intro k
  induction k with
  | zero =>
    intro i T hi fu hfu σ hI
    obtain ⟨m, rfl⟩ : ∃ m, fu = m + 1 := ⟨fu - 1, by omega⟩
    rw [fx_s, e_X5_ticks_B2, if_pos (nI_le (by omega) (by omega))]
    exact ⟨σ, rfl, rfl, fun _ _ _ => rfl⟩
  | succ k ih =>
    intro i T hi fu hfu σ hI
    obtain ⟨m, rfl⟩ : ∃ m, fu = m + 1 := ⟨fu - 1, by omega⟩
    obtain ⟨σ1, e1, hR1, ha1⟩ := r_tick hI
    rw [fx_s, e_X5_ticks_B2, if_neg (nI_ge (by omega) (by omega)), e1, fh_cb_s, nI_1]
    obtain ⟨σ2, e2, hR2, ha2⟩ := ih (i + 1) (T + 1) (by omega) m (by omega) σ1 (by rw [hR1]; exact hI.tick)
    exact ⟨σ2, e2, by rw [hR2, hR1]; rfl, fun b h1 h2 => by rw [ha2 b h1 h2]; exact ha1 b h1 h2⟩
theorem r_ticks {n T a : Nat} {σ : fh_S} (hI : RI (σ 45) n T) (ha : a ≤ 200) : ∃ σ', f_X5_ticks 44 (nI a) σ = some ((), σ') ∧ σ' 45 = tN_ n a (σ 45) ∧ ∀ b, b ≠ 45 → b ≠ 49 → σ' b = σ b := by
  unfold f_X5_ticks
  rw [ob_M]
  exact r_ticksL (by omega) a 0 T (by omega) fh_fu (by unfold fh_fu; omega) σ hI
/-! ===== copies of rows ===== -/
theorem r_copyL {k1 k2 : Nat} (h1 : fh_arr k1 = some 73) (h2 : fh_arr k2 = some 73) (hne : k1 ≠ k2) {σ0 : fh_S} : ∀ (k i : Nat), i + k = 73 → ∀ fu : Nat, k < fu → ∀ σ, (∀ a, a ≠ k2 → σ a = σ0 a) → (∀ j, σ k2 j = if j < i then σ0 k1 j else σ0 k2 j) →
    ∃ σ', fh_fx (ρ := Int32 → fh_S → Option (Unit × fh_S)) (fun _ _ => none) (f_X5_copyRow_B2 k1 k2) fu (nI i) σ = some ((), σ') ∧ (∀ j, σ' k2 j = if j < 73 then σ0 k1 j else σ0 k2 j) ∧ ∀ a, a ≠ k2 → σ' a = σ0 a := by
  intro k
  induction k with
  | zero =>
    intro i hi fu hfu σ ha hj
    obtain ⟨m, rfl⟩ : ∃ m, fu = m + 1 := ⟨fu - 1, by omega⟩
    obtain rfl : i = 73 := by omega
    rw [fx_s, e_X5_copyRow_B2, if_pos (by decide)]
    exact ⟨σ, rfl, hj, ha⟩
  | succ k ih =>
    intro i hi fu hfu σ ha hj
    obtain ⟨m, rfl⟩ : ∃ m, fu = m + 1 := ⟨fu - 1, by omega⟩
    rw [fx_s, e_X5_copyRow_B2, show (73 : Int32) = nI 73 from rfl, if_neg (nI_ge (by omega) (by omega)), ld_ok h1 (by omega) (by omega), bd_s, st_ok h2 (by omega) (by omega), bd_s, nI_1]
    refine ih (i + 1) (by omega) m (by omega) _ (fun a h => by rw [fs_o h]; exact ha a h) (fun j => ?_)
    rw [fs_at, if_pos rfl]
    by_cases e : j = i
    · subst e; rw [if_pos rfl, if_pos (by omega), ha k1 hne]
    · rw [if_neg e, hj j]
      by_cases q : j < i
      · rw [if_pos q, if_pos (by omega)]
      · rw [if_neg q, if_neg (by omega)]
theorem r_copy {k1 k2 : Nat} (h1 : fh_arr k1 = some 73) (h2 : fh_arr k2 = some 73) (hne : k1 ≠ k2) (σ : fh_S) : ∃ σ', f_X5_copyRow k1 k2 σ = some ((), σ') ∧ (∀ j, σ' k2 j = if j < 73 then σ k1 j else σ k2 j) ∧ ∀ a, a ≠ k2 → σ' a = σ a := by
  unfold f_X5_copyRow
  exact r_copyL h1 h2 hne 73 0 (by omega) fh_fu (by unfold fh_fu; omega) σ (fun _ _ => rfl) (fun j => by rw [if_neg (by omega)])
theorem cp_10 {σ : fh_S} {k1 k2 : Nat} (h1 : fh_arr k1 = some 10) (h2 : fh_arr k2 = some 10) : fh_cp σ k1 0 k2 0 10 = some (fh_row σ k2 (fun j => if j < 10 then σ k1 j else σ k2 j)) := by
  unfold fh_cp
  rw [h1, h2]
  simp only [bd_s]
  rw [if_neg (by decide)]
  congr 2
  funext j
  unfold va_cpy
  rw [show (0 : Int32).toNatClampNeg = 0 from rfl, show (10 : Int32).toNatClampNeg = 10 from rfl]
  by_cases h : j < 10 <;> simp [h]
theorem c_become {g h : Nat} (hgh : (g, h) = (21, 1) ∨ (g, h) = (11, 1) ∨ (g, h) = (1, 11) ∨ (g, h) = (1, 21)) {σ : fh_S} {ρ : fh_Rw} (hR : GR h σ ρ) : ∃ σ', f_X0_become g h σ = some ((), σ') ∧ GR g σ' ρ ∧ ∀ a, ¬ (g ≤ a ∧ a < g + 8) → σ' a = σ a := by
  have hg : fh_G g := by rcases hgh with e | e | e | e <;> cases e <;> simp [fh_G]
  have hh : fh_G h := by rcases hgh with e | e | e | e <;> cases e <;> simp [fh_G]
  have hd : g + 10 ≤ h ∨ h + 10 ≤ g := by rcases hgh with e | e | e | e <;> cases e <;> omega
  unfold f_X0_become
  simp only [ob_G hg, gi_G9 hh, gi_G10 hh, gi_G11 hh, bd_s, pf_G9 hg, pf_G10 hg, pf_G11 hg, gr_G0 hg, gr_G1 hg, gr_G2 hg, gr_G3 hg, gr_G4 hg, gr_G5 hg, gr_G6 hg, gr_G0 hh, gr_G1 hh, gr_G2 hh, gr_G3 hh, gr_G4 hh, gr_G5 hh, gr_G6 hh, cp_10 (ar_G1 hh) (ar_G1 hg), cp_10 (ar_G2 hh) (ar_G2 hg), cp_10 (ar_G3 hh) (ar_G3 hg), cp_10 (ar_G4 hh) (ar_G4 hg), cp_10 (ar_G5 hh) (ar_G5 hg), cp_10 (ar_G6 hh) (ar_G6 hg), cp_10 (ar_G7 hh) (ar_G7 hg)]
  refine ⟨_, rfl, ?_, ?_⟩
  · obtain ⟨r1, r2, r3, r4, r5⟩ := hR
    have n1 : h ≠ g := by omega
    refine ⟨?_, ?_, ?_, fun j hj => ?_, fun f hf d hdd => ?_⟩
    · simp [fh_row, fs_at, n1, r1]
    · simp [fh_row, fs_at, n1, r2]
    · simp [fh_row, fs_at, n1, r3]
    · have := r4 j hj
      rcases hgh with e | e | e | e <;> cases e <;> simp [fh_row, fs_at, hj, this]
    · have := r5 f hf d hdd
      rcases (show f = 0 ∨ f = 1 ∨ f = 2 ∨ f = 3 ∨ f = 4 ∨ f = 5 by omega) with rfl | rfl | rfl | rfl | rfl | rfl <;> rcases hgh with e | e | e | e <;> cases e <;> simp [fh_row, fs_at, hdd] <;> simpa using this
  · intro a ha
    have m0 : a ≠ g := by omega
    have m1 : a ≠ g + 1 := by omega
    have m2 : a ≠ g + 2 := by omega
    have m3 : a ≠ g + 3 := by omega
    have m4 : a ≠ g + 4 := by omega
    have m5 : a ≠ g + 5 := by omega
    have m6 : a ≠ g + 6 := by omega
    have m7 : a ≠ g + 7 := by omega
    rw [fh_row_n m7, fh_row_n m6, fh_row_n m5, fh_row_n m4, fh_row_n m3, fh_row_n m2, fh_row_n m1, fs_o m0, fs_o m0, fs_o m0]
