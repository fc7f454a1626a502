/-! ===== goings alone ===== -/
def GE (n : Nat) (ρ ρ' : fh_Rw) : Prop := (∀ d, d < n → ∀ f, f < 6 → f ≠ 1 → ρ (13 + 6 * d + f) = ρ' (13 + 6 * d + f)) ∧ (ρ 0 - ρ 0 / 2 * 2 = 1 ↔ ρ' 0 - ρ' 0 / 2 * 2 = 1)
theorem GE.rf {n : Nat} {ρ : fh_Rw} : GE n ρ ρ := ⟨fun _ _ _ _ _ => rfl, Iff.rfl⟩
theorem GE.tr {n : Nat} {ρ ρ' ρ'' : fh_Rw} (h : GE n ρ ρ') (h' : GE n ρ' ρ'') : GE n ρ ρ'' := ⟨fun d hd f hf h1 => (h.1 d hd f hf h1).trans (h'.1 d hd f hf h1), h.2.trans h'.2⟩
theorem pk_par {k g s t t' : Int32} (h : t - t / 2 * 2 = 1 ↔ t' - t' / 2 * 2 = 1) : pk_ k g s t = pk_ k g s t' := by
  unfold pk_
  by_cases q : t - t / 2 * 2 = 1
  · rw [if_pos q, if_pos (h.mp q)]
  · rw [if_neg q, if_neg (fun z => q (h.mpr z))]
theorem GE.ng {n T : Nat} {ρ ρ' : fh_Rw} (h : GE n ρ ρ') (hI : RI ρ n T) {d : Nat} (hd : d < n) : ng_ ρ d = ng_ ρ' d := by
  have hm := hI.mu d hd
  have e0 := h.1 d hd 0 (by omega) (by omega)
  have e2 := h.1 d hd 2 (by omega) (by omega)
  have e3 := h.1 d hd 3 (by omega) (by omega)
  have e4 := h.1 d hd 4 (by omega) (by omega)
  have e5 := h.1 d hd 5 (by omega) (by omega)
  have m3 := h.1 _ hm 3 (by omega) (by omega)
  have m4 := h.1 _ hm 4 (by omega) (by omega)
  unfold mu_ at m3 m4
  unfold ng_ pa_ pl_
  rw [← e4, ← e5, ← e2, ← e3, ← e0, ← m3, ← m4, pk_par h.2]
theorem par_n {t : Nat} (ht : t < 1000000) : nI t - nI t / 2 * 2 = nI (t % 2) := pk_rem (d := 2) (by omega) (by omega) (by omega)
theorem par_1 {t : Nat} (ht : t < 1000000) : nI t - nI t / 2 * 2 = 1 ↔ t % 2 = 1 := by
  rw [par_n ht]
  exact nI_eq (b := 1) (by omega) (by omega)
theorem GE.tick {n T T' : Nat} {ρ ρ' : fh_Rw} (h : GE n ρ ρ') (hI : RI ρ n T) (hI' : RI ρ' n T') (hT : T < 999000) (hT' : T' < 999000) : GE n (tk_ n ρ) (tk_ n ρ') := by
  refine ⟨fun d hd f hf h1 => ?_, ?_⟩
  · rw [tk_f hd hf, tk_f hd hf]
    by_cases f3 : f = 3
    · rw [if_pos f3, if_pos f3]; exact h.ng hI hd
    · rw [if_neg f3, if_neg f3, if_neg h1, if_neg h1]; exact h.1 d hd f hf h1
  · obtain ⟨t, ht, et⟩ := hI.2.2.1
    obtain ⟨t', ht', et'⟩ := hI'.2.2.1
    have hp := h.2
    rw [et, et', par_1 (by omega), par_1 (by omega)] at hp
    rw [tk_0, tk_0, et, et', nI_1, nI_1, par_1 (by omega), par_1 (by omega)]
    omega
theorem GE.ticks {n : Nat} : ∀ (k T T' : Nat) {ρ ρ' : fh_Rw}, GE n ρ ρ' → RI ρ n T → RI ρ' n T' → T + k < 999000 → T' + k < 999000 → GE n (tN_ n k ρ) (tN_ n k ρ') := by
  intro k
  induction k with
  | zero => intro T T' ρ ρ' h _ _ _ _; exact h
  | succ k ih =>
    intro T T' ρ ρ' h hI hI' hT hT'
    exact ih (T + 1) (T' + 1) (h.tick hI hI' (by omega) (by omega)) hI.tick hI'.tick (by omega) (by omega)
theorem tN_add {n : Nat} : ∀ (a b : Nat) (ρ : fh_Rw), tN_ n (a + b) ρ = tN_ n b (tN_ n a ρ) := by
  intro a
  induction a with
  | zero => intro b ρ; rw [Nat.zero_add]; rfl
  | succ a ih =>
    intro b ρ
    rw [show a + 1 + b = (a + b) + 1 by omega]
    exact ih b (tk_ n ρ)
/-- what two ticks leave as it was, two more leave so -/
theorem GE.per {n T : Nat} {ρ : fh_Rw} (h : GE n ρ (tN_ n 2 ρ)) (hI : RI ρ n T) : ∀ q, T + 2 * q + 2 < 999000 → GE n ρ (tN_ n (2 * q) ρ) := by
  intro q
  induction q with
  | zero => intro _; exact GE.rf
  | succ q ih =>
    intro hT
    have h1 := ih (by omega)
    have h2 := GE.ticks (2 * q) T (T + 2) h hI (hI.ticks 2 T) (by omega) (by omega)
    rw [show 2 * (q + 1) = 2 + 2 * q by omega, tN_add]
    exact h1.tr h2
theorem GE.sw {n : Nat} {ρ ρ' : fh_Rw} (h : GE n ρ ρ') : ∀ i, i ≤ n → sw_ ρ 3 0 i = sw_ ρ' 3 0 i := by
  intro i
  unfold sw_
  induction i with
  | zero => intro _; rfl
  | succ i ih =>
    intro hi
    rw [ms_succ, ms_succ, ih (by omega), h.1 i (by omega) 3 (by omega) (by omega)]
theorem c_markTick2 {g n T : Nat} {σ : fh_S} {ρ : fh_Rw} (hg : fh_G g) (hR : GR g σ ρ) (hI : RI ρ n T) (hT : T + 1 < 99999) : ∃ σ1 σ2 σ3 r, f_X0_markGoings g σ = some ((), σ1) ∧ f_X0_passTick g σ1 = some ((), σ2) ∧ f_X0_passTick g σ2 = some ((), σ3) ∧ f_X0_goesAsMarked g σ3 = some (r, σ3) ∧ (r = 0 ∨ (r = 1 ∧ ∀ d, d < n → ρ (13 + 6 * d + 3) = tN_ n 2 ρ (13 + 6 * d + 3))) ∧ GR g σ3 (tN_ n 2 ρ) ∧ ∀ a, ¬ (g ≤ a ∧ a < g + 10) → σ3 a = σ a := by
  have hn := hI.1
  have hR1 : GR g (fh_row σ (g + 9) (fun j => if j < 10 then σ (g + 4) j else σ (g + 9) j)) ρ := hR.mv (fun k h1 h2 => fh_row_n (by omega))
  obtain ⟨σ2, e2, g2, k2⟩ := c_tickM hg hR1 hI (by omega)
  obtain ⟨σ3, e3, g3, k3⟩ := c_tickM hg g2 hI.tick hT
  have hsz : σ3 g 9 = nI n := by rw [g3.1, tk_lo (by omega) (by omega), tk_lo (by omega) (by omega)]; exact hI.2.1
  obtain ⟨r, e, h1, h2⟩ := c_gamL hg hn hsz n 0 (by omega) fh_fu (by unfold fh_fu; omega)
  refine ⟨_, σ2, σ3, r, c_mark hg, e2, e3, ?_, ?_, g3, fun a ha => by rw [k3 a (by omega), k2 a (by omega), fh_row_n (by omega)]⟩
  · unfold f_X0_goesAsMarked
    rw [ob_G hg]
    exact e
  · rcases h1 with z | z
    · exact Or.inl z
    · refine Or.inr ⟨z, fun d hd => ?_⟩
      have := h2.mp z d (by omega) hd
      rw [g3.f3 (by omega), k3 (g + 9) (by omega), k2 (g + 9) (by omega), fh_row_s] at this
      simp only [show d < 10 by omega, if_true] at this
      rw [hR.f3 (by omega)] at this
      exact this.symm
theorem c_last {n T a b : Nat} {σ : fh_S} {ρ : fh_Rw} (hG : GR 21 σ ρ) (hI : RI ρ n T) (ha : a ≤ 200) (hb : b = a % 2) (hT : T < 99900) : ∃ σ', f_X0_passTicksForGoings_J55 (nI a) 21 σ = some ((), σ') ∧ GR 21 σ' (tN_ n b ρ) ∧ ∀ c, ¬ (21 ≤ c ∧ c < 31) → σ' c = σ c := by
  rw [e_X0_passTicksForGoings_J55]
  by_cases q : a % 2 = 1
  · rw [if_pos ((par_1 (by omega)).mpr q)]
    obtain ⟨σ1, e1, g1, k1⟩ := c_tick fhG21 hG hI (by omega)
    rw [e1, fh_cb_s, hb, q]
    exact ⟨σ1, rfl, g1, k1⟩
  · rw [if_neg (fun z => q ((par_1 (by omega)).mp z)), hb, show a % 2 = 0 by omega]
    exact ⟨σ, rfl, hG, fun _ _ => rfl⟩
theorem m2 {l : Nat} (h : 2 ≤ l) (hl : l < 1000) : nI l + (-2) = nI (l - 2) := by
  have := pk_sub (a := l) (b := 2) h
  rw [← this, Int32.sub_eq_add_neg]
  rfl
theorem c_ptfgL {n a : Nat} (ha : a ≤ 200) : ∀ (l T : Nat), l ≤ a → l % 2 = a % 2 → T + l < 99800 → ∀ fu : Nat, l + 1 < fu → ∀ (σ : fh_S) (ρ : fh_Rw), GR 21 σ ρ → RI ρ n T →
    ∃ σ' ρ' T', fh_fx (ρ := Int32 → Int32 → fh_S → Option (Unit × fh_S)) (fun _ _ _ => none) (f_X0_passTicksForGoings_B4 (nI a) 21) fu 1 (nI l) σ = some ((), σ') ∧ GR 21 σ' ρ' ∧ RI ρ' n T' ∧ GE n (tN_ n l ρ) ρ' ∧ ∀ c, ¬ (21 ≤ c ∧ c < 31) → σ' c = σ c := by
  intro l
  induction l using Nat.strongRecOn with
  | ind l ih =>
    intro T hla hpar hT fu hfu σ ρ hG hI
    obtain ⟨f, rfl⟩ : ∃ f, fu = f + 1 := ⟨fu - 1, by omega⟩
    rw [fx_s, e_X0_passTicksForGoings_B4, jn_s, show (2 : Int32) = nI 2 from rfl]
    by_cases hl : l < 2
    · rw [if_pos (nI_lt hl (by omega))]
      obtain ⟨σ1, e1, g1, k1⟩ := c_last hG hI ha (b := l) (by omega) (by omega)
      exact ⟨σ1, _, _, e1, g1, hI.ticks l T, GE.rf, k1⟩
    · rw [if_neg (nI_nlt (by omega) (by omega)), if_neg (by decide)]
      obtain ⟨σ1, σ2, σ3, r, e1, e2, e3, e4, hr, g3, k3⟩ := c_markTick2 fhG21 hG hI (by omega)
      have hI2 := hI.ticks 2 T
      have hcap : ¬ ((99999 : Int32) - nI l < σ3 21 10) := by
        obtain ⟨t, ht, et⟩ := hI2.2.2.1
        rw [g3.2.1, et, show (99999 : Int32) = nI 99999 from rfl, pk_sub (by omega)]
        exact nI_nlt (by omega) (by omega)
      rw [e1, fh_cb_s, e2, fh_cb_s, e3, fh_cb_s, gi_G10 fhG21, bd_s, jn_s, jn_s, if_neg hcap, e4, fh_cb_s]
      rcases hr with z | ⟨z, hq⟩
      · rw [z, if_pos rfl, e_X0_passTicksForGoings_J43, e_X0_passTicksForGoings_J48, m2 (by omega) (by omega)]
        obtain ⟨σ4, ρ', T', e, g, i, ge, k⟩ := ih (l - 2) (by omega) (T + 2) (by omega) (by omega) (by omega) f (by omega) σ3 _ g3 hI2
        refine ⟨σ4, ρ', T', e, g, i, ?_, fun c hc => by rw [k c hc]; exact k3 c hc⟩
        rw [← tN_add, show 2 + (l - 2) = l by omega] at ge
        exact ge
      · rw [z, if_neg ne01, e_X0_passTicksForGoings_J48, m2 (by omega) (by omega)]
        obtain ⟨f', rfl⟩ : ∃ f', f = f' + 1 := ⟨f - 1, by omega⟩
        rw [fx_s, e_X0_passTicksForGoings_B4, jn_s, if_pos rfl, ite_self]
        obtain ⟨σ4, e4', g4, k4⟩ := c_last g3 hI2 ha (b := a % 2) rfl (by omega)
        have hge : GE n ρ (tN_ n 2 ρ) := by
          refine ⟨fun d hd f hf h1 => ?_, ?_⟩
          · by_cases f3 : f = 3
            · subst f3; exact hq d hd
            · show _ = tk_ n (tk_ n ρ) (13 + 6 * d + f)
              rw [tk_f hd hf, if_neg f3, if_neg h1, tk_f hd hf, if_neg f3, if_neg h1]
          · obtain ⟨t, ht, et⟩ := hI.2.2.1
            show _ ↔ tk_ n (tk_ n ρ) 0 - tk_ n (tk_ n ρ) 0 / 2 * 2 = 1
            rw [tk_0, tk_0, et, nI_1, nI_1, par_1 (by omega), par_1 (by omega)]
            omega
        refine ⟨σ4, _, _, e4', g4, hI2.ticks (a % 2) _, ?_, fun c hc => by rw [k4 c hc]; exact k3 c hc⟩
        have h1 := hge.per hI (l / 2) (by omega)
        have h2 := hge.per hI 1 (by omega)
        have h3 : GE n (tN_ n (2 * (l / 2)) ρ) (tN_ n 2 ρ) := ⟨fun d hd f hf hf1 => (h1.1 d hd f hf hf1).symm.trans (h2.1 d hd f hf hf1), h1.2.symm.trans h2.2⟩
        have h4 := GE.ticks (a % 2) (T + 2 * (l / 2)) (T + 2) h3 (hI.ticks _ T) hI2 (by omega) (by omega)
        rw [← tN_add, show 2 * (l / 2) + a % 2 = l by omega] at h4
        exact h4
/-! stopping a set -/
def sk_ (s : Nat) : Nat → Nat → fh_Rw → fh_Rw
  | 0, _, ρ => ρ
  | k + 1, i, ρ => sk_ s k (i + 1) (if s.testBit i = true then sp_ ρ i 1 else ρ)
theorem RI.sk {n T s : Nat} (k : Nat) : ∀ (i : Nat) {ρ : fh_Rw}, i + k ≤ n → RI ρ n T → RI (sk_ s k i ρ) n T := by
  induction k with
  | zero => intro i ρ _ h; exact h
  | succ k ih =>
    intro i ρ hi h
    unfold sk_
    refine ih (i + 1) (by omega) ?_
    split
    · exact h.stop (by omega) (Or.inr rfl)
    · exact h
/-- who stands still a ticks later -/
def sd_ (ρ : fh_Rw) (n s a : Nat) : Nat := sw_ (tN_ n a (sk_ s n 0 ρ)) 3 0 n
theorem c_sisL {n T s a : Nat} {A : fh_S} (hs : s < 1024) (ha : a ≤ 200) (hT : T < 99000) : ∀ (k i : Nat), i + k = n → ∀ fu : Nat, k < fu → ∀ (σ : fh_S) (ρ : fh_Rw), CR σ A → GR 21 σ ρ → RI ρ n T →
    ∃ σ', fh_fx (ρ := Int32 → fh_S → Option (Int32 × fh_S)) (fun _ _ => none) (f_X4_stillIfStopped_B13 0 (nI a) (nI s)) fu (nI i) σ = some (nI (sw_ (tN_ n a (sk_ s k i ρ)) 3 0 n), σ') ∧ CR σ' A ∧ ∀ c, ¬ (21 ≤ c ∧ c < 31) → σ' c = σ c := by
  intro k
  induction k with
  | zero =>
    intro i hi fu hfu σ ρ hC hG hI
    have hn := hI.1
    have hsz : σ 21 9 = nI n := by rw [hG.1]; exact hI.2.1
    obtain ⟨f, rfl⟩ : ∃ f, fu = f + 1 := ⟨fu - 1, by omega⟩
    obtain ⟨σ1, ρ', T', e1, g1, i1, ge, k1⟩ := c_ptfgL (n := n) ha a T (by omega) rfl (by omega) fh_fu (by unfold fh_fu; omega) σ ρ hG hI
    rw [fx_s, e_X4_stillIfStopped_B13, gr_0_2, bd_s, gi_G9 fhG21, bd_s, hsz, if_pos (nI_le (by omega) (by omega)), bd_s]
    unfold f_X0_passTicksForGoings
    rw [ob_G fhG21, e1, fh_cb_s, bd_s, c_still fhG21 g1 i1, fh_cb_s]
    refine ⟨σ1, ?_, hC.mv (fun b _ hb _ => k1 b hb), k1⟩
    unfold sk_
    rw [ge.sw n (Nat.le_refl n)]
  | succ k ih =>
    intro i hi fu hfu σ ρ hC hG hI
    have hn := hI.1
    have hsz : σ 21 9 = nI n := by rw [hG.1]; exact hI.2.1
    obtain ⟨f, rfl⟩ : ∃ f, fu = f + 1 := ⟨fu - 1, by omega⟩
    rw [fx_s, e_X4_stillIfStopped_B13, gr_0_2, bd_s, gi_G9 fhG21, bd_s, hsz, if_neg (nI_ge (by omega) (by omega)), c_isIn hs (by omega), fh_cb_s, jn_s]
    unfold sk_
    by_cases q : s.testBit i = true
    · rw [if_pos q, if_neg ne01, if_pos q, bd_s]
      obtain ⟨σ1, e1, g1, k1⟩ := c_freeze fhG21 (show i < 10 by omega) hG
      rw [e1, fh_cb_s, e_X4_stillIfStopped_J41, nI_1]
      obtain ⟨σ2, e2, c2, k2⟩ := ih (i + 1) (by omega) f (by omega) σ1 _ (hC.mv (fun b _ hb _ => k1 b hb)) g1 (hI.stop (by omega) (Or.inr rfl))
      exact ⟨σ2, e2, c2, fun c hc => by rw [k2 c hc]; exact k1 c hc⟩
    · rw [if_neg q, if_pos rfl, if_neg q, e_X4_stillIfStopped_J41, nI_1]
      exact ih (i + 1) (by omega) f (by omega) σ _ hC hG hI
theorem c_sis {n T s a : Nat} {σ A : fh_S} (hs : s < 1024) (ha : a ≤ 200) (hT : T < 99000) (hC : CR σ A) (hI : RI (A 45) n T) : ∃ σ', f_X4_stillIfStopped 0 (nI s) (nI a) σ = some (nI (sd_ (A 45) n s a), σ') ∧ CR σ' A ∧ ∀ c, ¬ (21 ≤ c ∧ c < 31) → σ' c = σ c := by
  have hn := hI.1
  obtain ⟨σ1, e1, g1, c1, k1⟩ := c_try hC
  obtain ⟨σ2, e2, c2, k2⟩ := c_sisL (A := A) hs ha hT n 0 (by omega) fh_fu (by unfold fh_fu; omega) σ1 _ c1 g1 hI
  unfold f_X4_stillIfStopped
  rw [ob_H, gr_0_2, bd_s, gr_0_0, bd_s, e1, fh_cb_s]
  exact ⟨σ2, e2, c2, fun c hc => by rw [k2 c hc]; exact k1 c hc⟩
theorem sp_hi {ρ : fh_Rw} {d j : Nat} {s : Int32} (hd : d < 10) (hj : 73 ≤ j) : sp_ ρ d s j = ρ j := by
  unfold sp_
  split
  · rfl
  · rw [pk_un (by omega), pk_un (by omega)]
theorem r_swL {n T s a : Nat} {A : fh_S} (hs : s < 1024) (ha : a ≤ 200) : ∀ (k i : Nat), i + k = n → ∀ fu : Nat, k < fu → ∀ (σ : fh_S), RB σ A → RI (σ 45) n T →
    rE (fh_fx (ρ := Int32 → fh_S → Option (Int32 × fh_S)) (fun _ _ => none) (f_X5_stillWith_B13 44 (nI a) (nI s)) fu (nI i) σ) σ A (nI (sw_ (tN_ n a (sk_ s k i (σ 45))) 3 0 n)) := by
  intro k
  induction k with
  | zero =>
    intro i hi fu hfu σ hB hI
    have hn := hI.1
    obtain ⟨f, rfl⟩ : ∃ f, fu = f + 1 := ⟨fu - 1, by omega⟩
    obtain ⟨σ1, e1, g1, k1⟩ := r_ticks hI ha
    have hI1 : RI (σ1 45) n (T + a) := by rw [g1]; exact hI.ticks a T
    rw [fx_s, e_X5_stillWith_B13, gr_44_0, bd_s, ld_45_1, bd_s, hI.2.1, if_pos (nI_le (by omega) (by omega)), e1, fh_cb_s, r_stillNow hI1, fh_cb_s, cb_id, g1]
    exact (r_putBack (hB.ticked hn g1 k1)).bk (fun k hk => k1 k (by omega) (by omega))
  | succ k ih =>
    intro i hi fu hfu σ hB hI
    have hn := hI.1
    have hi10 : i < 10 := by omega
    obtain ⟨f, rfl⟩ : ∃ f, fu = f + 1 := ⟨fu - 1, by omega⟩
    have fin : ∀ (x : Int32) (σ1 : fh_S), (x = 0 ∨ (x = 1 ∧ σ1 45 (13 + 6 * i + 4) = 1)) → ∃ σ2, f_X5_stillWith_J45 44 (nI i) (fh_fx (ρ := Int32 → fh_S → Option (Int32 × fh_S)) (fun _ _ => none) (f_X5_stillWith_B13 44 (nI a) (nI s)) f) x σ1 = fh_fx (ρ := Int32 → fh_S → Option (Int32 × fh_S)) (fun _ _ => none) (f_X5_stillWith_B13 44 (nI a) (nI s)) f (nI (i + 1)) σ2 ∧ σ2 = σ1 := by
      intro x σ1 hx
      rw [e_X5_stillWith_J45, gr_44_0, bd_s]
      unfold f_X5_at
      rw [fh_cb_s, at_4, jn_s]
      have sv : fs σ1 45 (13 + 6 * i + 4) (σ1 45 (13 + 6 * i + 4)) = σ1 := by
        unfold fs
        rw [upd_id rfl, row_id]
      rcases hx with rfl | ⟨rfl, h1⟩
      · rw [if_pos rfl, r_is4 hi10, fh_cb_s, e_X5_stillWith_J71, st_45 (by omega), bd_s, sv, nI_1]
        exact ⟨σ1, rfl, rfl⟩
      · rw [if_neg ne01, e_X5_stillWith_J71, st_45 (by omega), bd_s, nI_1]
        rw [h1] at sv
        rw [sv]
        exact ⟨σ1, rfl, rfl⟩
    rw [fx_s, e_X5_stillWith_B13, gr_44_0, bd_s, ld_45_1, bd_s, hI.2.1, if_neg (nI_ge (by omega) (by omega)), r_hasb hs (by omega), fh_cb_s, jn_s, jn_s]
    unfold sk_
    by_cases q : s.testBit i = true
    · rw [if_pos q, if_neg ne01, if_pos q]
      obtain ⟨σ1, e1, g1, k1⟩ := r_stops (σ := σ) hi10 (Or.inr (rfl : (1 : Int32) = 1))
      have hB1 : RB σ1 A := hB.mv (fun j hj => by rw [g1]; exact sp_hi hi10 hj) (fun b _ h1 _ => k1 b h1)
      have hI1 : RI (σ1 45) n T := by rw [g1]; exact hI.stop (by omega) (Or.inr rfl)
      rw [e1, fh_cb_s]
      by_cases z : σ 45 (13 + 6 * i + 4) = 1
      · rw [if_pos z, if_pos rfl, e_X5_stillWith_J44]
        obtain ⟨σ2, e2, rfl⟩ := fin 0 σ1 (Or.inl rfl)
        rw [e2, ← g1]
        exact (ih (i + 1) (by omega) f (by omega) σ2 hB1 hI1).bk (fun k hk => k1 k (by omega))
      · rw [if_neg z, if_neg ne01]
        have h4 : σ1 45 (13 + 6 * i + 4) = 1 := by
          rw [g1]
          unfold sp_
          rw [if_neg z, pk_un (by omega), pk_us]
        obtain ⟨σ2, e2, rfl⟩ := fin 1 σ1 (Or.inr ⟨rfl, h4⟩)
        rw [e2, ← g1]
        exact (ih (i + 1) (by omega) f (by omega) σ2 hB1 hI1).bk (fun k hk => k1 k (by omega))
    · rw [if_neg q, if_pos rfl, if_neg q, e_X5_stillWith_J44]
      obtain ⟨σ2, e2, rfl⟩ := fin 0 σ (Or.inl rfl)
      rw [e2]
      exact ih (i + 1) (by omega) f (by omega) σ2 hB hI
theorem r_sw {n T s a : Nat} {σ A : fh_S} (hs : s < 1024) (ha : a ≤ 200) (hR : RR σ A) (hI : RI (A 45) n T) : rE (f_X5_stillWith 44 (nI s) (nI a) σ) σ A (nI (sd_ (A 45) n s a)) := by
  have hn := hI.1
  obtain ⟨σ1, e1, b1, q1, k1⟩ := r_aside hR
  have := r_swL (n := n) (T := T) (A := A) hs ha n 0 (by omega) fh_fu (by unfold fh_fu; omega) σ1 b1 (by rw [q1, hR.1]; exact hI)
  rw [q1, hR.1] at this
  unfold f_X5_stillWith
  rw [ob_M, gr_44_0, bd_s, gr_44_2, bd_s, e1, fh_cb_s]
  exact this.bk (fun k hk => k1 k (by omega))
