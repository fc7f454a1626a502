/-! ===== masters, kinds: the class, the calls ===== -/
theorem c_mastersL {s d n z T : Nat} {A : fh_S} (hs : s < 4) (hd : d < n) (hz : z ≤ 40) (ez : A 54 s = nI z) (hT : T < 99000) (hI : RI (A 45) n T) : ∀ (k i : Nat), i + k = n → ∀ fu : Nat, k < fu → ∀ σ : fh_S, CR σ A →
    ∃ σ', fh_fx (ρ := Int32 → Int32 → fh_S → Option (Int32 × fh_S)) (fun _ _ _ => none) (f_X4_masters_B40 0 (nI d) (nI s)) fu (nI (ms_ (fp_ A s d n z 2) i)) (nI i) σ = some (nI (ms_ (fp_ A s d n z 2) n), σ') ∧ CR σ' A ∧ ∀ b, ¬ (21 ≤ b ∧ b < 31) → σ' b = σ b := by
  have hn := hI.1
  have hd10 : d < 10 := by omega
  intro k
  induction k with
  | zero =>
    intro i hi fu hfu σ hC
    obtain ⟨g, rfl⟩ : ∃ f, fu = f + 1 := ⟨fu - 1, by omega⟩
    obtain rfl : i = n := by omega
    rw [fx_s, e_X4_masters_B40]
    simp only [gr_0_0, bd_s, gi_G9 fhG1]
    rw [show σ 1 9 = nI i by rw [hC.1.1]; exact hI.2.1, if_pos (nI_le (by omega) (by omega))]
    exact ⟨σ, rfl, hC, fun _ _ => rfl⟩
  | succ k ih =>
    intro i hi fu hfu σ hC
    obtain ⟨g, rfl⟩ : ∃ f, fu = f + 1 := ⟨fu - 1, by omega⟩
    obtain ⟨σ1, e1, g1, c1, k1⟩ := c_try hC
    obtain ⟨σ2, e2, c2, k2⟩ := c_tried (σ := fs σ1 (21 + 1 + 2) d (nI i)) hs hd hz ez hT (c1.mv (fun b _ hb _ => fs_o (by omega))) (g1.st (show 2 < 6 by omega) hd10 (nI i)) (hI.set hd (show 2 < 6 by omega) (okM (show i < n by omega)))
    have e2' : f_X4_triedShowsAs 0 (35 + 2 * s) (nI d) (fs σ1 (21 + 1 + 2) d (nI i)) = some (bi_ (fp_ A s d n z 2 i), σ2) := e2
    rw [fx_s, e_X4_masters_B40]
    simp only [gr_0_0, gr_0_2, gr_0_5, bd_s, gi_G9 fhG1, lr_s hs]
    rw [show σ 1 9 = nI n by rw [hC.1.1]; exact hI.2.1, if_neg (nI_ge (by omega) (by omega)), e1, fh_cb_s]
    simp only [gr_G2 fhG21, bd_s, st_G3 fhG21 hd10]
    rw [show fs σ1 (21 + 3) d (nI i) = fs σ1 (21 + 1 + 2) d (nI i) from rfl, e2', fh_cb_s, jn_s]
    obtain ⟨σ3, e3, c3, k3⟩ := ih (i + 1) (by omega) g (by omega) σ2 c2
    have kk : ∀ b, ¬ (21 ≤ b ∧ b < 31) → σ3 b = σ b := fun b hb => by rw [k3 b hb, k2 b hb, fs_o (by omega)]; exact k1 b hb
    rw [← ms_or (by omega)] at e3
    refine ⟨σ3, ?_, c3, kk⟩
    by_cases h : bi_ (fp_ A s d n z 2 i) = 0
    · rw [if_pos h] at e3 ⊢
      rw [e_X4_masters_J97, nI_1]
      exact e3
    · rw [if_neg h] at e3 ⊢
      rw [e_X4_masters_J97, nI_1]
      exact e3
theorem c_kindsL {s d n z T : Nat} {A : fh_S} (hs : s < 4) (hd : d < n) (hz : z ≤ 40) (ez : A 54 s = nI z) (hT : T < 99000) (hI : RI (A 45) n T) : ∀ (k i : Nat), i + k = 7 → ∀ fu : Nat, k < fu → ∀ σ : fh_S, CR σ A →
    ∃ σ', fh_fx (ρ := Int32 → Int32 → fh_S → Option (Int32 × fh_S)) (fun _ _ _ => none) (f_X4_kinds_B40 0 (nI d) (nI s)) fu (nI (ms_ (fp_ A s d n z 0) i)) (nI i) σ = some (nI (ms_ (fp_ A s d n z 0) 7), σ') ∧ CR σ' A ∧ ∀ b, ¬ (21 ≤ b ∧ b < 31) → σ' b = σ b := by
  have hn := hI.1
  have hd10 : d < 10 := by omega
  intro k
  induction k with
  | zero =>
    intro i hi fu hfu σ hC
    obtain ⟨g, rfl⟩ : ∃ f, fu = f + 1 := ⟨fu - 1, by omega⟩
    obtain rfl : i = 7 := by omega
    rw [fx_s, e_X4_kinds_B40, show (7 : Int32) = nI 7 from rfl, if_pos (nI_le (by omega) (by omega))]
    exact ⟨σ, rfl, hC, fun _ _ => rfl⟩
  | succ k ih =>
    intro i hi fu hfu σ hC
    obtain ⟨g, rfl⟩ : ∃ f, fu = f + 1 := ⟨fu - 1, by omega⟩
    obtain ⟨σ1, e1, g1, c1, k1⟩ := c_try hC
    obtain ⟨σ2, e2, c2, k2⟩ := c_tried (σ := fs σ1 (21 + 1 + 0) d (nI i)) hs hd hz ez hT (c1.mv (fun b _ hb _ => fs_o (by omega))) (g1.st (show 0 < 6 by omega) hd10 (nI i)) (hI.set hd (show 0 < 6 by omega) (okK (show i < 7 by omega)))
    have e2' : f_X4_triedShowsAs 0 (35 + 2 * s) (nI d) (fs σ1 (21 + 1 + 0) d (nI i)) = some (bi_ (fp_ A s d n z 0 i), σ2) := e2
    rw [fx_s, e_X4_kinds_B40, show (7 : Int32) = nI 7 from rfl, if_neg (nI_ge (by omega) (by omega))]
    simp only [gr_0_0, gr_0_2, gr_0_5, bd_s, lr_s hs]
    rw [e1, fh_cb_s]
    simp only [gr_G0 fhG21, bd_s, st_G1 fhG21 hd10]
    rw [show fs σ1 (21 + 1) d (nI i) = fs σ1 (21 + 1 + 0) d (nI i) from rfl, e2', fh_cb_s, jn_s]
    obtain ⟨σ3, e3, c3, k3⟩ := ih (i + 1) (by omega) g (by omega) σ2 c2
    have kk : ∀ b, ¬ (21 ≤ b ∧ b < 31) → σ3 b = σ b := fun b hb => by rw [k3 b hb, k2 b hb, fs_o (by omega)]; exact k1 b hb
    rw [← ms_or (by omega)] at e3
    refine ⟨σ3, ?_, c3, kk⟩
    by_cases h : bi_ (fp_ A s d n z 0 i) = 0
    · rw [if_pos h] at e3 ⊢
      rw [e_X4_kinds_J94, nI_1]
      exact e3
    · rw [if_neg h] at e3 ⊢
      rw [e_X4_kinds_J94, nI_1]
      exact e3
