/-! ===== frosts ===== -/
theorem dz_ex : ∃ f : Int32 → Int32, ∀ z, f z = z * 1103515245 + 12345 := ⟨_, fun _ => rfl⟩
/-- the next number drawn (its definition is kept from the kernel, which would multiply in unary) -/
noncomputable def dz_ : Int32 → Int32 := Classical.choose dz_ex
theorem dz_e (z : Int32) : z * 1103515245 + 12345 = dz_ z := (Classical.choose_spec dz_ex z).symm
theorem du_ex : ∃ f : Int32 → Int32, ∀ z, f z = (z.toUInt32 >>> ((8 : Int32).toUInt32 &&& Int32.toUInt32 31)).toInt32 := ⟨_, fun _ => rfl⟩
noncomputable def du_ : Int32 → Int32 := Classical.choose du_ex
theorem du_e (z : Int32) : (z.toUInt32 >>> ((8 : Int32).toUInt32 &&& Int32.toUInt32 31)).toInt32 = du_ z := (Classical.choose_spec du_ex z).symm
noncomputable def fz_ (ρ : fh_Rw) (d : Nat) : fh_Rw := if du_ (dz_ (ρ 2)) - du_ (dz_ (ρ 2)) / 16 * 16 = 0 then sp_ (upd ρ 2 (dz_ (ρ 2))) d 1 else upd ρ 2 (dz_ (ρ 2))
noncomputable def fl_ : Nat → Nat → fh_Rw → fh_Rw
  | 0, _, ρ => ρ
  | k + 1, i, ρ => fl_ k (i + 1) (fz_ ρ i)
noncomputable def fo_ (n : Nat) : Nat → fh_Rw → fh_Rw
  | 0, ρ => ρ
  | k + 1, ρ => fo_ n k (tk_ n (fl_ n 0 ρ))
theorem fl_s {k i : Nat} {ρ : fh_Rw} : fl_ (k + 1) i ρ = fl_ k (i + 1) (fz_ ρ i) := by rw [fl_]
theorem fo_s {n k : Nat} {ρ : fh_Rw} : fo_ n (k + 1) ρ = fo_ n k (tk_ n (fl_ n 0 ρ)) := by rw [fo_]
theorem RI.z {ρ : fh_Rw} {n T : Nat} (h : RI ρ n T) (v : Int32) : RI (upd ρ 2 v) n T :=
  RI.of h.1 (by rw [pk_un (by omega)]; exact h.2.1) (by rw [pk_un (by omega)]; exact h.2.2.1) (fun j hj => by rw [pk_un (by omega)]; exact h.2.2.2.1 j hj) (fun d hd f hf => by rw [pk_un (by omega)]; exact h.ok hd)
theorem RI.fz {ρ : fh_Rw} {n T d : Nat} (h : RI ρ n T) (hd : d < n) : RI (fz_ ρ d) n T := by
  unfold fz_
  split
  · exact (h.z _).stop hd (Or.inr rfl)
  · exact h.z _
theorem RI.fl {n T : Nat} (k : Nat) : ∀ (i : Nat) {ρ : fh_Rw}, i + k ≤ n → RI ρ n T → RI (fl_ k i ρ) n T := by
  induction k with
  | zero => intro i ρ _ h; rw [fl_]; exact h
  | succ k ih => intro i ρ hi h; rw [fl_s]; exact ih (i + 1) (by omega) (h.fz (by omega))
theorem RI.fo {n : Nat} (k : Nat) : ∀ (T : Nat) {ρ : fh_Rw}, RI ρ n T → RI (fo_ n k ρ) n (T + k) := by
  induction k with
  | zero => intro T ρ h; rw [fo_]; exact h
  | succ k ih =>
    intro T ρ h
    rw [fo_s, show T + (k + 1) = T + 1 + k by omega]
    exact ih (T + 1) (RI.fl (ρ := ρ) n 0 (by omega) h).tick
theorem c_draw {σ : fh_S} {ρ : fh_Rw} (hR : GR 1 σ ρ) : f_X0_draw 1 σ = some (du_ (dz_ (ρ 2)), fs σ 1 11 (dz_ (ρ 2))) := by
  unfold f_X0_draw
  simp only [ob_G fhG1, gi_G11 fhG1, bd_s, pf_G11 fhG1, fs_s, hR.2.2.1, dz_e, du_e]
theorem r_drawn {σ : fh_S} : f_X5_drawn 44 σ = some (du_ (dz_ (σ 45 2)), fs σ 45 2 (dz_ (σ 45 2))) := by
  unfold f_X5_drawn
  simp only [ob_M, gr_44_0, bd_s, ld_45_2, st_45_2, fs_s, dz_e, du_e]
theorem c_frostI {n T : Nat} {r10 : Int32 → fh_S → Option (Int32 × fh_S)} {x8 : Int32} (hT : T < 99999) : ∀ (k i : Nat), i + k = n → ∀ fu : Nat, k < fu → ∀ (σ : fh_S) (ρ : fh_Rw), GR 1 σ ρ → RI ρ n T →
    ∃ σ', fh_fx (ρ := Int32 → fh_S → Option (Int32 × fh_S)) (fun _ _ => none) (f_X4_frosts_B47 0 r10 x8) fu (nI i) σ = r10 (x8 + 1) σ' ∧ GR 1 σ' (tk_ n (fl_ k i ρ)) ∧ ∀ a, ¬ (1 ≤ a ∧ a < 11) → σ' a = σ a := by
  intro k
  induction k with
  | zero =>
    intro i hi fu hfu σ ρ hG hI
    have hn := hI.1
    have hsz : σ 1 9 = nI n := by rw [hG.1]; exact hI.2.1
    obtain ⟨f, rfl⟩ : ∃ f, fu = f + 1 := ⟨fu - 1, by omega⟩
    obtain ⟨σ1, e1, g1, k1⟩ := c_tick fhG1 hG hI hT
    rw [fx_s, e_X4_frosts_B47, gr_0_0, bd_s, gi_G9 fhG1, bd_s, hsz, if_pos (nI_le (by omega) (by omega)), bd_s, e1, fh_cb_s, fl_]
    exact ⟨σ1, rfl, g1, k1⟩
  | succ k ih =>
    intro i hi fu hfu σ ρ hG hI
    have hn := hI.1
    have hsz : σ 1 9 = nI n := by rw [hG.1]; exact hI.2.1
    obtain ⟨f, rfl⟩ : ∃ f, fu = f + 1 := ⟨fu - 1, by omega⟩
    rw [fx_s, e_X4_frosts_B47, gr_0_0, bd_s, gi_G9 fhG1, bd_s, hsz, if_neg (nI_ge (by omega) (by omega)), bd_s, c_draw hG, fh_cb_s, jn_s]
    have g1 := hG.dr (dz_ (ρ 2))
    rw [fl_s]
    have hz := hI.fz (d := i) (by omega)
    unfold fz_ at hz ⊢
    by_cases q : du_ (dz_ (ρ 2)) - du_ (dz_ (ρ 2)) / 16 * 16 = 0
    · rw [if_pos q] at hz ⊢
      obtain ⟨σ2, e2, g2, k2⟩ := c_freeze fhG1 (show i < 10 by omega) g1
      rw [if_pos q, bd_s, e2, fh_cb_s, e_X4_frosts_J80, nI_1]
      obtain ⟨σ3, e3, g3, k3⟩ := ih (i + 1) (by omega) f (by omega) σ2 _ g2 hz
      exact ⟨σ3, e3, g3, fun a ha => by rw [k3 a ha, k2 a ha, fs_o (by omega)]⟩
    · rw [if_neg q] at hz ⊢
      rw [if_neg q, e_X4_frosts_J80, nI_1]
      obtain ⟨σ3, e3, g3, k3⟩ := ih (i + 1) (by omega) f (by omega) _ _ g1 hz
      exact ⟨σ3, e3, g3, fun a ha => by rw [k3 a ha, fs_o (by omega)]⟩
theorem c_frostO {n b : Nat} (hb : b ≤ 20) : ∀ (k i T : Nat), i + k = b → T + k < 99999 → ∀ fu : Nat, k < fu → ∀ (σ : fh_S) (ρ : fh_Rw), GR 1 σ ρ → RI ρ n T →
    ∃ σ', fh_fx (ρ := Int32 → fh_S → Option (Int32 × fh_S)) (fun _ _ => none) (f_X4_frosts_B40 (nI b) 0) fu (nI i) σ = some (nI (pc_ (sw_ (fo_ n k ρ) 4 1 n)), σ') ∧ GR 1 σ' (fo_ n k ρ) ∧ ∀ a, ¬ (1 ≤ a ∧ a < 11) → σ' a = σ a := by
  intro k
  induction k with
  | zero =>
    intro i T hi hT fu hfu σ ρ hG hI
    obtain ⟨f, rfl⟩ : ∃ f, fu = f + 1 := ⟨fu - 1, by omega⟩
    rw [fx_s, e_X4_frosts_B40, if_pos (nI_le (by omega) (by omega)), gr_0_0, bd_s, c_stopped fhG1 hG hI, fh_cb_s, j_bitCount (sw_lt hI.1), fh_cb_s, fo_]
    exact ⟨σ, rfl, hG, fun _ _ => rfl⟩
  | succ k ih =>
    intro i T hi hT fu hfu σ ρ hG hI
    have hn := hI.1
    obtain ⟨f, rfl⟩ : ∃ f, fu = f + 1 := ⟨fu - 1, by omega⟩
    rw [fo_s, fx_s, e_X4_frosts_B40, if_neg (nI_ge (by omega) (by omega))]
    obtain ⟨σ1, e1, g1, k1⟩ := c_frostI (r10 := fh_fx (ρ := Int32 → fh_S → Option (Int32 × fh_S)) (fun _ _ => none) (f_X4_frosts_B40 (nI b) 0) f) (x8 := nI i) (T := T) (by omega) n 0 (by omega) fh_fu (by unfold fh_fu; omega) σ ρ hG hI
    obtain ⟨σ2, e2, g2, k2⟩ := ih (i + 1) (T + 1) (by omega) (by omega) f (by omega) σ1 _ g1 (RI.fl (ρ := ρ) n 0 (by omega) hI).tick
    rw [nI_1] at e1
    exact ⟨σ2, e1.trans e2, g2, fun a ha => by rw [k2 a ha]; exact k1 a ha⟩
theorem r_frostI {n T : Nat} {r11 : Int32 → Int32 → fh_S → Option (Int32 × fh_S)} {x9 : Int32} : ∀ (k i : Nat), i + k = n → ∀ fu : Nat, k < fu → ∀ (c : Nat) (σ : fh_S), RI (σ 45) n T →
    ∃ σ' c', fh_fx (ρ := Int32 → Int32 → fh_S → Option (Int32 × fh_S)) (fun _ _ _ => none) (f_X5_frosts_B49 44 r11 x9) fu (nI c) (nI i) σ = r11 (nI c') (x9 + 1) σ' ∧ c' ≤ c + k ∧ σ' 45 = tk_ n (fl_ k i (σ 45)) ∧ ∀ a, a ≠ 45 → a ≠ 49 → σ' a = σ a := by
  intro k
  induction k with
  | zero =>
    intro i hi fu hfu c σ hI
    have hn := hI.1
    obtain ⟨f, rfl⟩ : ∃ f, fu = f + 1 := ⟨fu - 1, by omega⟩
    obtain ⟨σ1, e1, g1, k1⟩ := r_tick hI
    rw [fx_s, e_X5_frosts_B49, gr_44_0, bd_s, ld_45_1, bd_s, hI.2.1, if_pos (nI_le (by omega) (by omega)), e1, fh_cb_s, fl_]
    exact ⟨σ1, c, rfl, by omega, g1, k1⟩
  | succ k ih =>
    intro i hi fu hfu c σ hI
    have hn := hI.1
    obtain ⟨f, rfl⟩ : ∃ f, fu = f + 1 := ⟨fu - 1, by omega⟩
    rw [fx_s, e_X5_frosts_B49, gr_44_0, bd_s, ld_45_1, bd_s, hI.2.1, if_neg (nI_ge (by omega) (by omega)), r_drawn, fh_cb_s, jn_s, jn_s]
    have hz := hI.fz (d := i) (by omega)
    rw [fl_s]
    unfold fz_ at hz ⊢
    by_cases q : du_ (dz_ (σ 45 2)) - du_ (dz_ (σ 45 2)) / 16 * 16 = 0
    · rw [if_pos q] at hz ⊢
      obtain ⟨σ2, e2, g2, k2⟩ := r_stops (σ := fs σ 45 2 (dz_ (σ 45 2))) (show i < 10 by omega) (Or.inr (rfl : (1 : Int32) = 1))
      rw [fs_row] at g2
      rw [if_pos q, e2, fh_cb_s]
      by_cases z : fs σ 45 2 (dz_ (σ 45 2)) 45 (13 + 6 * i + 4) = 1
      · rw [if_pos z, if_pos rfl, e_X5_frosts_J85, e_X5_frosts_J86, Int32.add_zero, nI_1]
        obtain ⟨σ3, c', e3, hc, g3, k3⟩ := ih (i + 1) (by omega) f (by omega) c σ2 (by rw [g2]; exact hz)
        exact ⟨σ3, c', e3, by omega, by rw [g3, g2], fun a h1 h2 => by rw [k3 a h1 h2, k2 a h1, fs_o h1]⟩
      · rw [if_neg z, if_neg (by decide), e_X5_frosts_J86, nI_1, nI_1]
        obtain ⟨σ3, c', e3, hc, g3, k3⟩ := ih (i + 1) (by omega) f (by omega) (c + 1) σ2 (by rw [g2]; exact hz)
        exact ⟨σ3, c', e3, by omega, by rw [g3, g2], fun a h1 h2 => by rw [k3 a h1 h2, k2 a h1, fs_o h1]⟩
    · rw [if_neg q] at hz ⊢
      rw [if_neg q, e_X5_frosts_J85, e_X5_frosts_J86, Int32.add_zero, nI_1]
      obtain ⟨σ3, c', e3, hc, g3, k3⟩ := ih (i + 1) (by omega) f (by omega) c (fs σ 45 2 (dz_ (σ 45 2))) (by rw [fs_row]; exact hz)
      exact ⟨σ3, c', e3, by omega, by rw [g3, fs_row], fun a h1 h2 => by rw [k3 a h1 h2, fs_o h1]⟩
theorem r_frostO {n b : Nat} (hb : b ≤ 20) : ∀ (k i T : Nat), i + k = b → ∀ fu : Nat, k < fu → ∀ (c : Nat) (σ : fh_S), c ≤ 10 * i → RI (σ 45) n T →
    ∃ σ', fh_fx (ρ := Int32 → Int32 → fh_S → Option (Int32 × fh_S)) (fun _ _ _ => none) (f_X5_frosts_B41 (nI b) 44) fu (nI c) (nI i) σ = some (nI (pc_ (sw_ (fo_ n k (σ 45)) 4 1 n)), σ') ∧ σ' 45 = fo_ n k (σ 45) ∧ ∀ a, a ≠ 45 → a ≠ 49 → σ' a = σ a := by
  intro k
  induction k with
  | zero =>
    intro i T hi fu hfu c σ hc hI
    obtain ⟨f, rfl⟩ : ∃ f, fu = f + 1 := ⟨fu - 1, by omega⟩
    rw [fx_s, e_X5_frosts_B41, if_pos (nI_le (by omega) (by omega)), if_pos (nI_pos' (by omega)), r_stoppedNow hI, fh_cb_s, r_bits (sw_lt hI.1), fh_cb_s, fo_]
    exact ⟨σ, rfl, rfl, fun _ _ _ => rfl⟩
  | succ k ih =>
    intro i T hi fu hfu c σ hc hI
    have hn := hI.1
    obtain ⟨f, rfl⟩ : ∃ f, fu = f + 1 := ⟨fu - 1, by omega⟩
    rw [fo_s, fx_s, e_X5_frosts_B41, if_neg (nI_ge (by omega) (by omega))]
    obtain ⟨σ1, c', e1, hc', g1, k1⟩ := r_frostI (r11 := fh_fx (ρ := Int32 → Int32 → fh_S → Option (Int32 × fh_S)) (fun _ _ _ => none) (f_X5_frosts_B41 (nI b) 44) f) (x9 := nI i) (T := T) n 0 (by omega) fh_fu (by unfold fh_fu; omega) c σ hI
    obtain ⟨σ2, e2, g2, k2⟩ := ih (i + 1) (T + 1) (by omega) f (by omega) c' σ1 (by omega) (by rw [g1]; exact (RI.fl (ρ := σ 45) n 0 (by omega) hI).tick)
    rw [nI_1] at e1
    rw [g1] at e2 g2
    exact ⟨σ2, e1.trans e2, g2, fun a h1 h2 => by rw [k2 a h1 h2]; exact k1 a h1 h2⟩
theorem s_frosts (a : Int32) : fh_Stp (f_X4_frosts 0 a) (f_X5_frosts 44 a) := by
  apply fh_Stp.mk
  intro N A σ τ hN hA hC hR
  obtain ⟨n, hI⟩ := hA.1
  have hn := hI.1
  have hIt : RI (τ 45) n (100 * N) := by rw [hR.1]; exact hI
  obtain ⟨t, ht, et⟩ := hI.2.2.1
  unfold f_X4_frosts f_X5_frosts
  simp only [ob_H, ob_M, gr_0_0, gr_44_0, bd_s, c_isWithin, r_within, fh_cb_s, cb_id, gi_G10 fhG1, hC.1.2.1, et, ld_45_0]
  rcases wb_or a 1 20 with q | ⟨q, -⟩
  · rw [q]
    simp only [if_true]
    exact ⟨_, _, hA.tell (by omega), c_tell0 hC, r_find0 hR⟩
  · obtain ⟨k, hk1, hk, rfl⟩ := wb_1h (a := a) (h := 20) (by omega) q
    rw [q]
    simp only [ne01, if_false]
    rw [show (99999 : Int32) = nI 99999 from rfl, pk_sub (by omega), if_pos (nI_le (by omega) (by omega)), hR.1, et, nI_add, if_pos (nI_le (by omega) (by omega))]
    obtain ⟨σ1, e1, g1, k1⟩ := c_frostO (n := n) hk k 0 (100 * N) (by omega) (by omega) fh_fu (by unfold fh_fu; omega) σ _ hC.1 hI
    obtain ⟨τ1, e2, g2, k2⟩ := r_frostO (n := n) hk k 0 (100 * N) (by omega) fh_fu (by unfold fh_fu; omega) 0 τ (by omega) hIt
    rw [hR.1] at e2 g2
    exact ⟨_, fh_row A 45 (fo_ n k (A 45)), hA.now ((RI.fo (ρ := A 45) k (100 * N) hI).mono (by omega)), ⟨σ1, e1, hC.now g1 (fun k _ h _ _ => k1 k (by omega)), fun k hk => k1 k (by omega)⟩, ⟨τ1, e2, hR.now g2 (fun k _ h _ h' _ _ => k2 k h h'), fun k hk => k2 k (by omega) (by omega)⟩⟩
