theorem c_tick2M {g n T : Nat} {σ0 : fh_S} {ρ : fh_Rw} (hg : fh_G g) (hI : RI ρ n T) (hT : T < 99999) (hN : ∀ j, j < n → σ0 (g + 8) j = ng_ ρ j) (hR0 : GR g σ0 ρ) : ∀ (k i : Nat), i + k = n → ∀ fu : Nat, k < fu → ∀ σ, (∀ a, a ≠ g + 2 → a ≠ g + 4 → σ a = σ0 a) → (∀ d, d < 10 → σ (g + 4) d = if d < i then ng_ ρ d else σ0 (g + 4) d) → (∀ d, d < 10 → σ (g + 2) d = if d < i then rd_ (σ0 (g + 2) d + ng_ ρ d) else σ0 (g + 2) d) →
    ∃ σ', fh_fx (ρ := Int32 → fh_S → Option (Unit × fh_S)) (fun _ _ => none) (f_X0_passTick_B43 g) fu (nI i) σ = some ((), σ') ∧ GR g σ' (tk_ n ρ) ∧ ∀ a, ¬ (g ≤ a ∧ a < g + 9) → σ' a = σ0 a := by
  have hn := hI.1
  obtain ⟨t, ht, et⟩ := hI.2.2.1
  intro k
  induction k with
  | zero =>
    intro i hi fu hfu σ ha h4 h2
    obtain ⟨m, rfl⟩ : ∃ m, fu = m + 1 := ⟨fu - 1, by omega⟩
    rw [fx_s, e_X0_passTick_B43]
    have hsz : σ g 9 = nI n := by rw [ha g (by omega) (by omega), hR0.1]; exact hI.2.1
    have htk : σ g 10 = nI t := by rw [ha g (by omega) (by omega), hR0.2.1]; exact et
    simp only [gi_G9 hg, bd_s, hsz, gi_G10 hg, htk, j_min, fh_cb_s, pf_G10 hg]
    rw [if_pos (nI_le (by omega) (by omega))]
    have hmin : mn_ (nI t + 1) 99999 = nI (t + 1) := by
      unfold mn_
      rw [nI_1, show (99999 : Int32) = nI 99999 from rfl, if_neg (nI_nlt (by omega) (by omega))]
    rw [hmin]
    refine ⟨_, rfl, ⟨?_, ?_, ?_, fun j hj => ?_, fun f hf d hd => ?_⟩, fun a h => ?_⟩
    · rw [fs_ne (by omega), hsz, tk_lo (by omega) (by omega)]; exact hI.2.1.symm
    · rw [fs_s, tk_0, et, nI_1]
    · rw [fs_ne (by omega), tk_lo (by omega) (by omega), ha g (by omega) (by omega)]; exact hR0.2.2.1
    · rw [fs_o (by omega), tk_lo (by omega) (by omega), ha (g + 7) (by omega) (by omega)]; exact hR0.2.2.2.1 j hj
    · rw [fs_o (by omega)]
      have hr := hR0.2.2.2.2 f hf d hd
      by_cases hdn : d < n
      · rw [tk_f hdn hf]
        by_cases f3 : f = 3
        · subst f3
          rw [if_pos rfl, show g + 1 + 3 = g + 4 by omega, h4 d hd, if_pos (by omega)]
        · rw [if_neg f3]
          by_cases f1 : f = 1
          · subst f1
            rw [if_pos rfl, show g + 1 + 1 = g + 2 by omega, h2 d hd, if_pos (by omega), hR0.f1 hd]
          · rw [if_neg f1, ha _ (by omega) (by omega)]
            exact hr
      · rw [tk_hi (by omega)]
        by_cases f3 : f = 3
        · subst f3
          rw [show g + 1 + 3 = g + 4 by omega, h4 d hd, if_neg (by omega)]
          exact hr
        · by_cases f1 : f = 1
          · subst f1
            rw [show g + 1 + 1 = g + 2 by omega, h2 d hd, if_neg (by omega)]
            exact hr
          · rw [ha _ (by omega) (by omega)]
            exact hr
    · rw [fs_o (by omega)]
      exact ha a (by omega) (by omega)
  | succ k ih =>
    intro i hi fu hfu σ ha h4 h2
    obtain ⟨m, rfl⟩ : ∃ m, fu = m + 1 := ⟨fu - 1, by omega⟩
    have hi10 : i < 10 := by omega
    rw [fx_s, e_X0_passTick_B43]
    have hsz : σ g 9 = nI n := by rw [ha g (by omega) (by omega), hR0.1]; exact hI.2.1
    have h8 : σ (g + 8) i = ng_ ρ i := by rw [ha (g + 8) (by omega) (by omega)]; exact hN i (by omega)
    simp only [gi_G9 hg, bd_s, hsz]
    rw [if_neg (nI_ge (by omega) (by omega))]
    simp only [gr_G3 hg, bd_s, gr_G7 hg, ld_G8 hg hi10, h8, st_G4 hg hi10]
    rw [fs_o (show g + 8 ≠ g + 4 by omega), h8, c_turn hg hi10, fh_cb_s, nI_1, fs_o (show g + 2 ≠ g + 4 by omega)]
    refine ih (i + 1) (by omega) m (by omega) _ (fun a h1 h2 => by rw [fs_o h1, fs_o h2]; exact ha a h1 h2) (fun d hd => ?_) (fun d hd => ?_)
    · rw [fs_o (by omega), fs_at, if_pos rfl]
      by_cases e : d = i
      · subst e; rw [if_pos rfl, if_pos (by omega)]
      · rw [if_neg e, h4 d hd]
        by_cases q : d < i
        · rw [if_pos q, if_pos (by omega)]
        · rw [if_neg q, if_neg (by omega)]
    · rw [fs_at, if_pos rfl]
      by_cases e : d = i
      · subst e; rw [if_pos rfl, if_pos (by omega), h2 d hd, if_neg (by omega)]
      · rw [if_neg e, fs_o (by omega), h2 d hd]
        by_cases q : d < i
        · rw [if_pos q, if_pos (by omega)]
        · rw [if_neg q, if_neg (by omega)]
/-- the class's TICK -/
theorem c_tickM {g n T : Nat} {σ : fh_S} {ρ : fh_Rw} (hg : fh_G g) (hR : GR g σ ρ) (hI : RI ρ n T) (hT : T < 99999) : ∃ σ', f_X0_passTick g σ = some ((), σ') ∧ GR g σ' (tk_ n ρ) ∧ ∀ a, ¬ (g ≤ a ∧ a < g + 9) → σ' a = σ a := by
  have hn := hI.1
  unfold f_X0_passTick
  rw [ob_G hg]
  obtain ⟨σ1, e1, hR1, hN1, ha1⟩ := c_tick1 (σ0 := σ) hg hI n 0 (by omega) fh_fu (by unfold fh_fu; omega) σ hR (fun j h => by omega) (fun a _ => rfl)
  obtain ⟨σ2, e2, hR2, ha2⟩ := c_tick2M hg hI hT hN1 hR1 n 0 (by omega) fh_fu (by unfold fh_fu; omega) σ1 (fun a _ _ => rfl) (fun d _ => by rw [if_neg (by omega)]) (fun d _ => by rw [if_neg (by omega)])
  exact ⟨σ2, e1.trans e2, hR2, fun a h => by rw [ha2 a h]; exact ha1 a (by omega)⟩
/-! ===== settles ===== -/
def st_ (n : Nat) (ρ : fh_Rw) : Bool := decide (∀ d, d < n → ρ (13 + 6 * d + 3) = ng_ ρ d)
theorem r_settledL {n T : Nat} {σ : fh_S} (hI : RI (σ 45) n T) : ∀ (k i : Nat), i + k = n → ∀ fu : Nat, k < fu → ∀ b : Int32, b = 0 ∨ b = 1 →
    ∃ r, fh_fx (ρ := Int32 → Int32 → fh_S → Option (Int32 × fh_S)) (fun _ _ _ => none) (f_X5_isSettled_B4 44) fu b (nI i) σ = some (r, σ) ∧ (r = 0 ∨ r = 1) ∧ (r = 1 ↔ b = 1 ∧ ∀ d, i ≤ d → d < n → σ 45 (13 + 6 * d + 3) = ng_ (σ 45) d) := by
  have hn := hI.1
  intro k
  induction k with
  | zero =>
    intro i hi fu hfu b hb
    obtain ⟨f, rfl⟩ : ∃ f, fu = f + 1 := ⟨fu - 1, by omega⟩
    rw [fx_s, e_X5_isSettled_B4]
    simp only [gr_44_0, bd_s, ld_45_1]
    rw [hI.2.1, if_pos (nI_le (by omega) (by omega))]
    refine ⟨b, ?_, hb, ⟨fun h => ⟨h, fun d h1 h2 => by omega⟩, fun h => h.1⟩⟩
    rcases hb with rfl | rfl <;> rfl
  | succ k ih =>
    intro i hi fu hfu b hb
    obtain ⟨f, rfl⟩ : ∃ f, fu = f + 1 := ⟨fu - 1, by omega⟩
    rw [fx_s, e_X5_isSettled_B4]
    simp only [gr_44_0, bd_s, ld_45_1]
    rw [hI.2.1, if_neg (nI_ge (by omega) (by omega))]
    simp only [jn_s, e_X5_isSettled_J48, e_X5_isSettled_J49, nI_1]
    rcases hb with rfl | rfl
    · rw [if_pos rfl]
      obtain ⟨r, e, h1, h2⟩ := ih (i + 1) (by omega) f (by omega) 0 (Or.inl rfl)
      exact ⟨r, e, h1, by rw [h2]; simp⟩
    · rw [if_neg (by decide), r_is3 (by omega), fh_cb_s, r_stopped (by omega), fh_cb_s]
      have key : ∀ v, v = ng_ (σ 45) i → ∃ r, f_X5_isSettled_J41 (σ 45 (13 + 6 * i + 3)) (f_X5_isSettled_J49 (fh_fx (ρ := Int32 → Int32 → fh_S → Option (Int32 × fh_S)) (fun _ _ _ => none) (f_X5_isSettled_B4 44) f) (nI i)) (f_X5_isSettled_J48 (f_X5_isSettled_J49 (fh_fx (ρ := Int32 → Int32 → fh_S → Option (Int32 × fh_S)) (fun _ _ _ => none) (f_X5_isSettled_B4 44) f) (nI i))) v σ = some (r, σ) ∧ (r = 0 ∨ r = 1) ∧ (r = 1 ↔ (1 : Int32) = 1 ∧ ∀ d, i ≤ d → d < n → σ 45 (13 + 6 * d + 3) = ng_ (σ 45) d) := by
        intro v hv
        rw [e_X5_isSettled_J41]
        simp only [e_X5_isSettled_J48, e_X5_isSettled_J49, nI_1]
        by_cases q : σ 45 (13 + 6 * i + 3) = v
        · rw [if_pos q]
          obtain ⟨r, e, h1, h2⟩ := ih (i + 1) (by omega) f (by omega) 1 (Or.inr rfl)
          refine ⟨r, e, h1, by
            rw [h2]
            refine ⟨fun z => ⟨by first | trivial | rfl, fun d d1 d2 => ?_⟩, fun z => ⟨by first | trivial | rfl, fun d d1 d2 => z.2 d (by omega) d2⟩⟩
            by_cases e : d = i
            · subst e; rw [q, hv]
            · exact z.2 d (by omega) d2⟩
        · rw [if_neg q]
          obtain ⟨r, e, h1, h2⟩ := ih (i + 1) (by omega) f (by omega) 0 (Or.inl rfl)
          refine ⟨r, e, h1, by
            rw [h2]
            refine ⟨fun z => absurd z.1 (by decide), fun z => absurd (z.2 i (by omega) (by omega)) (by rw [← hv]; exact q)⟩⟩
      by_cases hs : σ 45 (13 + 6 * i + 4) = 1
      · rw [if_pos hs, if_neg (by decide)]
        exact key 0 (by unfold ng_; rw [if_pos hs])
      · rw [if_neg hs, if_pos rfl, r_pace hI (by omega), fh_cb_s]
        exact key _ (by unfold ng_; rw [if_neg hs])
theorem r_settled {n T : Nat} {σ : fh_S} (hI : RI (σ 45) n T) : f_X5_isSettled 44 σ = some (if st_ n (σ 45) = true then 1 else 0, σ) := by
  have hn := hI.1
  unfold f_X5_isSettled
  rw [ob_M]
  obtain ⟨r, e, h1, h2⟩ := r_settledL hI n 0 (by omega) fh_fu (by unfold fh_fu; omega) 1 (Or.inr rfl)
  rw [show (0 : Int32) = nI 0 from rfl] at *
  rw [e]
  unfold st_
  by_cases q : ∀ d, d < n → σ 45 (13 + 6 * d + 3) = ng_ (σ 45) d
  · rw [if_pos (decide_eq_true q), h2.mpr ⟨rfl, fun d _ hd => q d hd⟩]
  · rw [if_neg (by rw [decide_eq_true_iff]; exact q)]
    rcases h1 with z | z
    · rw [z]
    · exact absurd (fun d hd => (h2.mp z).2 d (by omega) hd) q
theorem c_gamL {g n : Nat} {σ : fh_S} (hg : fh_G g) (hn : n ≤ 10) (hsz : σ g 9 = nI n) : ∀ (k i : Nat), i + k = n → ∀ fu : Nat, k < fu →
    ∃ r, fh_fx (ρ := Int32 → fh_S → Option (Int32 × fh_S)) (fun _ _ => none) (f_X0_goesAsMarked_B2 g) fu (nI i) σ = some (r, σ) ∧ (r = 0 ∨ r = 1) ∧ (r = 1 ↔ ∀ d, i ≤ d → d < n → σ (g + 4) d = σ (g + 9) d) := by
  intro k
  induction k with
  | zero =>
    intro i hi fu hfu
    obtain ⟨f, rfl⟩ : ∃ f, fu = f + 1 := ⟨fu - 1, by omega⟩
    rw [fx_s, e_X0_goesAsMarked_B2]
    simp only [gi_G9 hg, bd_s, hsz]
    rw [if_pos (nI_le (by omega) (by omega))]
    exact ⟨1, rfl, Or.inr rfl, ⟨fun _ d h1 h2 => by omega, fun _ => rfl⟩⟩
  | succ k ih =>
    intro i hi fu hfu
    obtain ⟨f, rfl⟩ : ∃ f, fu = f + 1 := ⟨fu - 1, by omega⟩
    have hi10 : i < 10 := by omega
    rw [fx_s, e_X0_goesAsMarked_B2]
    simp only [gi_G9 hg, bd_s, hsz]
    rw [if_neg (nI_ge (by omega) (by omega))]
    simp only [gr_G3 hg, gr_G8 hg, bd_s, ld_G4 hg hi10, ld_G9 hg hi10, nI_1]
    by_cases q : σ (g + 4) i = σ (g + 9) i
    · rw [if_pos q]
      obtain ⟨r, e, h1, h2⟩ := ih (i + 1) (by omega) f (by omega)
      refine ⟨r, e, h1, by
        rw [h2]
        refine ⟨fun z d d1 d2 => ?_, fun z d d1 d2 => z d (by omega) d2⟩
        by_cases e : d = i
        · subst e; exact q
        · exact z d (by omega) d2⟩
    · rw [if_neg q]
      exact ⟨0, rfl, Or.inl rfl, ⟨fun z => absurd z (by decide), fun z => absurd (z i (by omega) (by omega)) q⟩⟩
theorem c_mark {g : Nat} {σ : fh_S} (hg : fh_G g) : f_X0_markGoings g σ = some ((), fh_row σ (g + 9) (fun j => if j < 10 then σ (g + 4) j else σ (g + 9) j)) := by
  unfold f_X0_markGoings
  simp only [ob_G hg, gr_G3 hg, gr_G8 hg, bd_s, cp_10 (ar_G4 hg) (ar_G9 hg)]
/-- mark, tick, look -/
theorem c_markTick {g n T : Nat} {σ : fh_S} {ρ : fh_Rw} (hg : fh_G g) (hR : GR g σ ρ) (hI : RI ρ n T) (hT : T < 99999) : ∃ σ1 σ2, f_X0_markGoings g σ = some ((), σ1) ∧ f_X0_passTick g σ1 = some ((), σ2) ∧ f_X0_goesAsMarked g σ2 = some (if st_ n ρ = true then 1 else 0, σ2) ∧ GR g σ2 (tk_ n ρ) ∧ ∀ a, ¬ (g ≤ a ∧ a < g + 10) → σ2 a = σ a := by
  have hn := hI.1
  have hR1 : GR g (fh_row σ (g + 9) (fun j => if j < 10 then σ (g + 4) j else σ (g + 9) j)) ρ := hR.mv (fun k h1 h2 => fh_row_n (by omega))
  obtain ⟨σ2, e2, g2, k2⟩ := c_tickM hg hR1 hI hT
  refine ⟨_, σ2, c_mark hg, e2, ?_, g2, fun a ha => by rw [k2 a (by omega), fh_row_n (by omega)]⟩
  have hsz : σ2 g 9 = nI n := by rw [g2.1, tk_lo (by omega) (by omega)]; exact hI.2.1
  obtain ⟨r, e, h1, h2⟩ := c_gamL hg hn hsz n 0 (by omega) fh_fu (by unfold fh_fu; omega)
  unfold f_X0_goesAsMarked
  rw [ob_G hg, show (0 : Int32) = nI 0 from rfl, e]
  have key : ∀ d, d < n → (σ2 (g + 4) d = σ2 (g + 9) d ↔ ρ (13 + 6 * d + 3) = ng_ ρ d) := by
    intro d hd
    rw [g2.f3 (by omega), tk_f hd (by omega), if_pos rfl, k2 (g + 9) (by omega), fh_row_s]
    simp only [show d < 10 by omega, if_true]
    rw [hR.f3 (by omega)]
    exact eq_comm
  unfold st_
  by_cases q : ∀ d, d < n → ρ (13 + 6 * d + 3) = ng_ ρ d
  · rw [if_pos (decide_eq_true q), h2.mpr (fun d _ hd => (key d hd).mpr (q d hd))]
  · rw [if_neg (by rw [decide_eq_true_iff]; exact q)]
    rcases h1 with z | z
    · rw [z]; rfl
    · exact absurd (fun d hd => (key d hd).mp (h2.mp z d (by omega) hd)) q
theorem nI_100 {i : Nat} (h : i ≤ 100) : ¬ (100 : Int32) < nI i := by
  rw [show (100 : Int32) = nI 100 from rfl]; exact nI_nlt h (by omega)
theorem c_settlesL {n : Nat} {A : fh_S} : ∀ (m i T : Nat), i + m = 100 → T + m < 99990 → ∀ fu : Nat, m + 1 < fu → ∀ (σ : fh_S) (ρ : fh_Rw), CR σ A → GR 21 σ ρ → RI ρ n T →
    cE (fh_fx (ρ := Int32 → fh_S → Option (Int32 × fh_S)) (fun _ _ => none) (f_X4_settles_B13 0) fu (nI i) σ) σ (oA A (sr_ n (st_ n) m i ρ)) (oV (sr_ n (st_ n) m i ρ)) := by
  intro m
  induction m with
  | zero =>
    intro i T hi hT fu hfu σ ρ hC hG hI
    obtain ⟨f, rfl⟩ : ∃ f, fu = f + 2 := ⟨fu - 2, by omega⟩
    obtain ⟨σ1, σ2, e1, e2, e3, g2, k2⟩ := c_markTick fhG21 hG hI (by omega)
    have hC2 : CR σ2 A := hC.mv (fun b _ hb _ => k2 b hb)
    rw [fx_s, e_X4_settles_B13, if_neg (nI_100 (by omega))]
    simp only [gr_0_2, bd_s]
    rw [e1, fh_cb_s, e2, fh_cb_s, e3, fh_cb_s]
    unfold sr_
    by_cases q : st_ n ρ = true
    · rw [if_pos q, if_neg (by decide), if_pos q]
      exact ⟨σ2, rfl, hC2, fun k hk => k2 k (by omega)⟩
    · rw [if_neg q, if_pos rfl, if_neg q]
      obtain rfl : i = 100 := by omega
      rw [fx_s, e_X4_settles_B13, if_pos (by decide), cb_id]
      exact (c_tell3 hC2).bk (fun k hk => k2 k (by omega))
  | succ m ih =>
    intro i T hi hT fu hfu σ ρ hC hG hI
    obtain ⟨f, rfl⟩ : ∃ f, fu = f + 1 := ⟨fu - 1, by omega⟩
    obtain ⟨σ1, σ2, e1, e2, e3, g2, k2⟩ := c_markTick fhG21 hG hI (by omega)
    have hC2 : CR σ2 A := hC.mv (fun b _ hb _ => k2 b hb)
    rw [fx_s, e_X4_settles_B13, if_neg (nI_100 (by omega))]
    simp only [gr_0_2, bd_s]
    rw [e1, fh_cb_s, e2, fh_cb_s, e3, fh_cb_s]
    unfold sr_
    by_cases q : st_ n ρ = true
    · rw [if_pos q, if_neg (by decide), if_pos q]
      exact ⟨σ2, rfl, hC2, fun k hk => k2 k (by omega)⟩
    · rw [if_neg q, if_pos rfl, if_neg q, nI_1]
      exact (ih (i + 1) (T + 1) (by omega) (by omega) f (by omega) σ2 _ hC2 g2 hI.tick).bk (fun k hk => k2 k (by omega))
theorem r_settlesL {n : Nat} {A : fh_S} : ∀ (m i T : Nat), i + m = 100 → ∀ fu : Nat, m < fu → ∀ (σ : fh_S), RB σ A → RI (σ 45) n T →
    rE (fh_fx (ρ := Int32 → fh_S → Option (Int32 × fh_S)) (fun _ _ => none) (f_X5_settles_B13 44) fu (nI i) σ) σ (oA A (sr_ n (st_ n) m i (σ 45))) (oV (sr_ n (st_ n) m i (σ 45))) := by
  intro m
  induction m with
  | zero =>
    intro i T hi fu hfu σ hB hI
    obtain ⟨f, rfl⟩ : ∃ f, fu = f + 1 := ⟨fu - 1, by omega⟩
    obtain rfl : i = 100 := by omega
    rw [fx_s, e_X5_settles_B13, jn_s, if_pos (by decide), e_X5_settles_J36, r_settled hI, fh_cb_s, jn_s]
    unfold sr_
    by_cases q : st_ n (σ 45) = true
    · rw [if_pos q, if_neg (by decide), if_pos q, e_X5_settles_J50]
      simp only [cb_id]
      exact r_end hB (some 100) (fun k e => by cases e; omega)
    · rw [if_neg q, if_pos rfl, if_neg q, e_X5_settles_J50]
      simp only [cb_id]
      exact r_end hB none (fun k e => by cases e)
  | succ m ih =>
    intro i T hi fu hfu σ hB hI
    obtain ⟨f, rfl⟩ : ∃ f, fu = f + 1 := ⟨fu - 1, by omega⟩
    rw [fx_s, e_X5_settles_B13, jn_s, show (100 : Int32) = nI 100 from rfl, if_neg (nI_ge (by omega) (by omega)), r_settled hI, fh_cb_s]
    unfold sr_
    by_cases q : st_ n (σ 45) = true
    · rw [if_pos q, if_neg (by decide), if_pos q, e_X5_settles_J36, r_settled hI, fh_cb_s, jn_s, if_pos q, if_neg (by decide), e_X5_settles_J50]
      simp only [cb_id]
      exact r_end hB (some i) (fun k e => by cases e; omega)
    · rw [if_neg q, if_pos rfl, if_neg q]
      obtain ⟨σ1, e1, g1, k1⟩ := r_tick hI
      rw [e1, fh_cb_s, nI_1, ← g1]
      exact (ih (i + 1) (T + 1) (by omega) f (by omega) σ1 (hB.ticked (k := 1) hI.1 g1 k1) (by rw [g1]; exact hI.tick)).bk (fun k hk => k1 k (by omega) (by omega))
theorem s_settles : fh_Stp (f_X4_settles 0) (f_X5_settles 44) := by
  apply fh_Stp.mk
  intro N A σ τ hN hA hC hR
  obtain ⟨n, hI⟩ := hA.1
  have hn := hI.1
  have hIt : RI (τ 45) n (100 * N) := by rw [hR.1]; exact hI
  unfold f_X4_settles f_X5_settles
  simp only [ob_H, ob_M, gr_0_0, gr_0_2, gr_44_0, gr_44_2, bd_s]
  obtain ⟨σ1, e1, g1, c1, k1⟩ := c_try hC
  obtain ⟨τ1, e2, b2, q2, k2⟩ := r_aside hR
  rw [e1, fh_cb_s, e2, fh_cb_s]
  have hc := c_settlesL (n := n) (A := A) 100 0 (100 * N) (by omega) (by omega) fh_fu (by unfold fh_fu; omega) σ1 _ c1 g1 hI
  have hr := r_settlesL (n := n) (A := A) 100 0 (100 * N) (by omega) fh_fu (by unfold fh_fu; omega) τ1 b2 (by rw [q2]; exact hIt)
  rw [q2, hR.1] at hr
  exact ⟨_, _, hA.o _, hc.bk (fun k hk => k1 k (by omega)), hr.bk (fun k hk => k2 k (by omega))⟩
theorem s_jogFor (a b c : Int32) : fh_Stp (f_X4_jogFor 0 a b c) (f_X5_jogFor 44 a b c) := by
  apply fh_Stp.mk
  intro N A σ τ hN hA hC hR
  obtain ⟨n, hI⟩ := hA.1
  have hn := hI.1
  have hIt : RI (τ 45) n (100 * N) := by rw [hR.1]; exact hI
  have hsz : σ 1 9 = nI n := by rw [hC.1.1]; exact hI.2.1
  unfold f_X4_jogFor f_X5_jogFor
  simp only [ob_H, ob_M, gr_0_0, gr_0_2, bd_s, r_isDial (show n ≤ 1000 by omega) hIt.2.1, c_has fhG1 hsz, c_isHour, r_isHour, c_isWithin, r_within, fh_cb_s, cb_id, jn_s, e_X5_jogFor_J26, e_X4_jogFor_J29]
  rcases db_or a (show n ≤ 1000 by omega) with h | ⟨h, d, hd, rfl⟩
  · rw [h]
    simp only [if_true]
    exact ⟨_, _, hA.tell (by omega), c_tell0 hC, r_find0 hR⟩
  · rw [h]
    simp only [ne01, if_false]
    rcases wb_or b 0 719 with q | ⟨q, -⟩
    · rw [q]
      simp only [if_true]
      exact ⟨_, _, hA.tell (by omega), c_tell0 hC, r_find0 hR⟩
    · rw [q]
      simp only [ne01, if_false]
      rcases wb_or c 0 200 with q' | ⟨q', -⟩
      · rw [q']
        simp only [if_true]
        exact ⟨_, _, hA.tell (by omega), c_tell0 hC, r_find0 hR⟩
      · obtain ⟨k, hk, rfl⟩ := wb_nI (a := c) (h := 200) (by omega) q'
        rw [q']
        simp only [ne01, if_false]
        obtain ⟨σ1, e1, g1, c1, k1⟩ := c_tryTicks hC hI hk (by omega)
        obtain ⟨τ1, e2, r2, k2⟩ := r_behind hR hI (show d < 10 by omega) (show 1 < 6 by omega) hk
        rw [e1, fh_cb_s, show (1 : Int32) = nI 1 from rfl, e2, fh_cb_s]
        simp only [gr_G1 fhG21, bd_s, ld_G2 fhG21 (show d < 10 by omega), c_round, r_round, fh_cb_s, g1.f1 (show d < 10 by omega)]
        generalize rd_ (b - tN_ n k (A 45) (13 + 6 * d + 1)) = x
        by_cases hx : x ≤ 360
        · rw [if_pos hx, if_neg (Int32.not_lt.mpr hx)]
          exact ⟨x, A, hA.mono (by omega), ⟨σ1, rfl, c1, fun k hk => k1 k (by omega)⟩, ⟨τ1, rfl, r2, k2⟩⟩
        · rw [if_neg hx, if_pos (Int32.not_le.mp hx)]
          exact ⟨x - 720, A, hA.mono (by omega), ⟨σ1, rfl, c1, fun k hk => k1 k (by omega)⟩, ⟨τ1, rfl, r2, k2⟩⟩
