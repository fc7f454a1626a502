/-! ===== what will be ===== -/
def RB (σ A : fh_S) : Prop := (∀ j, j < 73 → σ 47 j = A 45 j) ∧ (∀ j, 73 ≤ j → σ 45 j = A 45 j) ∧ σ 46 = A 46 ∧ σ 44 3 = A 44 3 ∧ σ 48 = A 48 ∧ σ 44 7 = A 44 7 ∧ σ 50 = A 50 ∧ σ 53 = A 53 ∧ σ 54 = A 54 ∧ σ 55 = A 55
theorem RB.mv {σ σ' A : fh_S} (h : RB σ A) (h45 : ∀ j, 73 ≤ j → σ' 45 j = σ 45 j) (hk : ∀ k, 44 ≤ k → k ≠ 45 → k ≠ 49 → σ' k = σ k) : RB σ' A := by
  obtain ⟨h1, h2, h3⟩ := h
  unfold RB
  rw [hk 47 (by omega) (by omega) (by omega), hk 46 (by omega) (by omega) (by omega), hk 44 (by omega) (by omega) (by omega), hk 48 (by omega) (by omega) (by omega), hk 50 (by omega) (by omega) (by omega), hk 53 (by omega) (by omega) (by omega), hk 54 (by omega) (by omega) (by omega), hk 55 (by omega) (by omega) (by omega)]
  exact ⟨h1, fun j hj => by rw [h45 j hj]; exact h2 j hj, h3⟩
theorem tN_hi {n : Nat} (hn : n ≤ 10) : ∀ (k : Nat) (ρ : fh_Rw) (j : Nat), 73 ≤ j → tN_ n k ρ j = ρ j
  | 0, _, _, _ => rfl
  | k + 1, ρ, j, hj => by
    show tN_ n k (tk_ n ρ) j = ρ j
    rw [tN_hi hn k _ j hj, tk_hi (by omega)]
/-- a thought begins: the row is laid aside -/
theorem r_aside {σ A : fh_S} (h : RR σ A) : ∃ σ', f_X5_copyRow 45 47 σ = some ((), σ') ∧ RB σ' A ∧ σ' 45 = σ 45 ∧ ∀ k, k ≠ 47 → σ' k = σ k := by
  obtain ⟨σ', e, h1, h2⟩ := r_copy ar_45 ar_47 (by omega) σ
  refine ⟨σ', e, ?_, h2 45 (by omega), h2⟩
  obtain ⟨g1, g2, g3⟩ := h
  unfold RB
  rw [h2 45 (by omega), h2 46 (by omega), h2 44 (by omega), h2 48 (by omega), h2 50 (by omega), h2 53 (by omega), h2 54 (by omega), h2 55 (by omega)]
  exact ⟨fun j hj => by rw [h1 j, if_pos hj, g1], fun j _ => by rw [g1], g2, g3⟩
theorem r_putBack {σ A : fh_S} {v : Int32} (h : RB σ A) : rE (f_X5_putBack 44 v σ) σ A v := by
  obtain ⟨σ', e, h1, h2⟩ := r_copy ar_47 ar_45 (by omega) σ
  obtain ⟨g1, g2, g3⟩ := h
  unfold f_X5_putBack
  simp only [ob_M, gr_44_2, gr_44_0, bd_s]
  rw [e, fh_cb_s]
  refine ⟨σ', rfl, ?_, fun k hk => h2 k (by omega)⟩
  unfold RR
  rw [h2 46 (by omega), h2 44 (by omega), h2 48 (by omega), h2 50 (by omega), h2 53 (by omega), h2 54 (by omega), h2 55 (by omega)]
  refine ⟨?_, g3⟩
  funext j
  rw [h1 j]
  by_cases hj : j < 73
  · rw [if_pos hj]; exact g1 j hj
  · rw [if_neg hj]; exact g2 j (by omega)
theorem RB.ticked {σ σ' A : fh_S} {n k : Nat} (h : RB σ A) (hn : n ≤ 10) (h45 : σ' 45 = tN_ n k (σ 45)) (hk : ∀ b, b ≠ 45 → b ≠ 49 → σ' b = σ b) : RB σ' A :=
  h.mv (fun j hj => by rw [h45, tN_hi hn k _ j hj]) (fun b _ h1 h2 => hk b h1 h2)
theorem r_behind {σ A : fh_S} {n T d f a : Nat} (hR : RR σ A) (hI : RI (A 45) n T) (hd : d < 10) (hf : f < 6) (ha : a ≤ 200) : rE (f_X5_behind 44 (nI d) (nI a) (nI f) σ) σ A (tN_ n a (A 45) (13 + 6 * d + f)) := by
  obtain ⟨σ1, e1, b1, q1, k1⟩ := r_aside hR
  obtain ⟨σ2, e2, q2, k2⟩ := r_ticks (σ := σ1) (by rw [q1, hR.1]; exact hI) ha
  unfold f_X5_behind
  simp only [ob_M, gr_44_0, gr_44_2, bd_s]
  rw [e1, fh_cb_s, e2, fh_cb_s, r_isf hd hf, fh_cb_s, cb_id, q2, q1, hR.1]
  exact (r_putBack (b1.ticked hI.1 q2 k2)).bk (fun k hk => by rw [k2 k (by omega) (by omega)]; exact k1 k (by omega))
/-- the class's trial garden -/
theorem c_try {σ A : fh_S} (hC : CR σ A) : ∃ σ', f_X0_become 21 1 σ = some ((), σ') ∧ GR 21 σ' (A 45) ∧ CR σ' A ∧ ∀ a, ¬ (21 ≤ a ∧ a < 31) → σ' a = σ a := by
  obtain ⟨σ', e, g, k⟩ := c_become (g := 21) (h := 1) (Or.inl rfl) hC.1
  exact ⟨σ', e, g, hC.mv (fun b _ h _ => k b (by omega)), fun a h => k a (by omega)⟩
theorem c_tryTicks {σ A : fh_S} {n T a : Nat} (hC : CR σ A) (hI : RI (A 45) n T) (ha : a ≤ 200) (hT : T < 99000) : ∃ σ', f_X4_tryTicks 0 (nI a) σ = some ((), σ') ∧ GR 21 σ' (tN_ n a (A 45)) ∧ CR σ' A ∧ ∀ b, ¬ (21 ≤ b ∧ b < 31) → σ' b = σ b := by
  obtain ⟨σ1, e1, g1, c1, k1⟩ := c_try hC
  obtain ⟨σ2, e2, g2, k2⟩ := c_ticks fhG21 g1 hI ha hT
  unfold f_X4_tryTicks
  simp only [ob_H, gr_0_2, gr_0_0, bd_s]
  rw [e1, fh_cb_s, e2, fh_cb_s]
  exact ⟨σ2, rfl, g2, c1.mv (fun b _ h _ => k2 b h), fun b h => by rw [k2 b h]; exact k1 b h⟩
theorem fin_q {N : Nat} {A σ σ1 τ : fh_S} {v : Int32} {y : Option (Int32 × fh_S)} (hA : AI A N) (hC : CR σ1 A) (hk : ∀ b, ¬ (21 ≤ b ∧ b < 31) → σ1 b = σ b) (hr : rE y τ A v) : ∃ v' A', AI A' (N + 1) ∧ cE (some (v, σ1)) σ A' v' ∧ rE y τ A' v' :=
  ⟨v, A, hA.mono (by omega), ⟨σ1, rfl, hC, fun k h => hk k (by omega)⟩, hr⟩
theorem fin_q' {N : Nat} {A σ σ1 τ : fh_S} {v w : Int32} {y : Option (Int32 × fh_S)} (hA : AI A N) (hC : CR σ1 A) (hk : ∀ b, ¬ (21 ≤ b ∧ b < 31) → σ1 b = σ b) (hr : rE y τ A v) (e : w = v) : ∃ v' A', AI A' (N + 1) ∧ cE (some (w, σ1)) σ A' v' ∧ rE y τ A' v' := by
  subst e
  exact fin_q hA hC hk hr
theorem s_ahead (a b : Int32) : fh_Stp (f_X4_ahead 0 a b) (f_X5_ahead 44 a b) := by
  apply fh_Stp.mk
  intro N A σ τ hN hA hC hR
  obtain ⟨n, hI⟩ := hA.1
  have hn := hI.1
  have hIt : RI (τ 45) n (100 * N) := by rw [hR.1]; exact hI
  have hsz : σ 1 9 = nI n := by rw [hC.1.1]; exact hI.2.1
  unfold f_X4_ahead f_X5_ahead
  simp only [ob_H, ob_M, gr_0_0, bd_s, r_isDial (show n ≤ 1000 by omega) hIt.2.1, c_has fhG1 hsz, c_isWithin, r_within, fh_cb_s, cb_id, jn_s, e_X5_ahead_J29, e_X4_ahead_J22]
  rcases db_or a (show n ≤ 1000 by omega) with h | ⟨h, d, hd, rfl⟩
  · rw [h]
    simp only [if_true]
    exact ⟨_, _, hA.tell (by omega), c_tell0 hC, r_find0 hR⟩
  · rw [h]
    simp only [ne01, if_false]
    rcases wb_or b 0 200 with q | ⟨q, -⟩
    · rw [q]
      simp only [if_true]
      exact ⟨_, _, hA.tell (by omega), c_tell0 hC, r_find0 hR⟩
    · obtain ⟨k, hk, rfl⟩ := wb_nI (a := b) (h := 200) (by omega) q
      rw [q]
      simp only [ne01, if_false]
      obtain ⟨σ1, e1, g1, c1, k1⟩ := c_tryTicks hC hI hk (by omega)
      rw [e1, fh_cb_s]
      simp only [gr_0_2, gr_G1 fhG21, bd_s, ld_G2 fhG21 (show d < 10 by omega)]
      exact fin_q' hA c1 k1 (r_behind hR hI (show d < 10 by omega) (show 1 < 6 by omega) hk) (g1.f1 (by omega))
theorem s_going (a b : Int32) : fh_Stp (f_X4_going 0 a b) (f_X5_going 44 a b) := by
  apply fh_Stp.mk
  intro N A σ τ hN hA hC hR
  obtain ⟨n, hI⟩ := hA.1
  have hn := hI.1
  have hIt : RI (τ 45) n (100 * N) := by rw [hR.1]; exact hI
  have hsz : σ 1 9 = nI n := by rw [hC.1.1]; exact hI.2.1
  unfold f_X4_going f_X5_going
  simp only [ob_H, ob_M, gr_0_0, bd_s, r_isDial (show n ≤ 1000 by omega) hIt.2.1, c_has fhG1 hsz, c_isWithin, r_within, fh_cb_s, cb_id, jn_s, e_X5_going_J29, e_X4_going_J22]
  rcases db_or a (show n ≤ 1000 by omega) with h | ⟨h, d, hd, rfl⟩
  · rw [h]
    simp only [if_true]
    exact ⟨_, _, hA.tell (by omega), c_tell0 hC, r_find0 hR⟩
  · rw [h]
    simp only [ne01, if_false]
    rcases wb_or b 0 200 with q | ⟨q, -⟩
    · rw [q]
      simp only [if_true]
      exact ⟨_, _, hA.tell (by omega), c_tell0 hC, r_find0 hR⟩
    · obtain ⟨k, hk, rfl⟩ := wb_nI (a := b) (h := 200) (by omega) q
      rw [q]
      simp only [ne01, if_false]
      obtain ⟨σ1, e1, g1, c1, k1⟩ := c_tryTicks hC hI hk (by omega)
      rw [e1, fh_cb_s]
      simp only [gr_0_2, gr_G3 fhG21, bd_s, ld_G4 fhG21 (show d < 10 by omega)]
      exact fin_q' hA c1 k1 (r_behind hR hI (show d < 10 by omega) (show 3 < 6 by omega) hk) (g1.f3 (by omega))
/-! the fewest ticks behind which something is so -/
def sr_ (n : Nat) (P : fh_Rw → Bool) : Nat → Nat → fh_Rw → Option Nat
  | 0, i, ρ => if P ρ = true then some i else none
  | m + 1, i, ρ => if P ρ = true then some i else sr_ n P m (i + 1) (tk_ n ρ)
def oV (o : Option Nat) : Int32 := match o with
  | some k => nI k
  | none => -1000004
def oA (A : fh_S) (o : Option Nat) : fh_S := match o with
  | some _ => A
  | none => tA A 3
theorem AI.o {A : fh_S} {N : Nat} (h : AI A N) (o : Option Nat) : AI (oA A o) (N + 1) := by
  cases o with
  | none => exact h.tell (by omega)
  | some k => exact h.mono (by omega)
theorem r_orNone {σ A : fh_S} {k : Nat} (h : RR σ A) (hk : k < 2000) : rE (f_X5_orNone 44 (nI k) σ) σ A (nI k) := by
  unfold f_X5_orNone
  rw [ob_M, if_pos (nI_pos' (by omega))]
  exact ⟨σ, rfl, h, fun _ _ => rfl⟩
theorem r_orNoneN {σ A : fh_S} (h : RR σ A) : rE (f_X5_orNone 44 (-1) σ) σ (tA A 3) (-1000004) := by
  unfold f_X5_orNone
  rw [ob_M, if_neg (by decide), cb_id]
  exact r_find3 h
/-- put back and tell -/
theorem r_end {σ A : fh_S} (h : RB σ A) (o : Option Nat) (ho : ∀ k, o = some k → k < 2000) : rE (fh_cb (f_X5_putBack 44 (match o with | some k => nI k | none => -1) σ) fun r s => f_X5_orNone 44 r s) σ (oA A o) (oV o) := by
  obtain ⟨σ1, e1, r1, k1⟩ := r_putBack (v := match o with | some k => nI k | none => -1) h
  rw [e1, fh_cb_s]
  cases o with
  | none => exact (r_orNoneN r1).bk k1
  | some k => exact (r_orNone r1 (ho k rfl)).bk k1
theorem nI_200 {i : Nat} (h : i ≤ 200) : ¬ (200 : Int32) < nI i := by
  rw [show (200 : Int32) = nI 200 from rfl]; exact nI_nlt h (by omega)
theorem c_showsL {n d : Nat} {h : Int32} {A : fh_S} (hd : d < 10) : ∀ (m i T : Nat), i + m = 200 → T + m < 99990 → ∀ fu : Nat, m + 1 < fu → ∀ (σ : fh_S) (ρ : fh_Rw), CR σ A → GR 21 σ ρ → RI ρ n T →
    cE (fh_fx (ρ := Int32 → fh_S → Option (Int32 × fh_S)) (fun _ _ => none) (f_X4_shows_B38 0 (nI d) h) fu (nI i) σ) σ (oA A (sr_ n (fun ρ => decide (ρ (13 + 6 * d + 1) = h)) m i ρ)) (oV (sr_ n (fun ρ => decide (ρ (13 + 6 * d + 1) = h)) m i ρ)) := by
  intro m
  induction m with
  | zero =>
    intro i T hi hT fu hfu σ ρ hC hG hI
    obtain ⟨f, rfl⟩ : ∃ f, fu = f + 2 := ⟨fu - 2, by omega⟩
    rw [fx_s, e_X4_shows_B38, if_neg (nI_200 (by omega))]
    simp only [gr_0_2, gr_G1 fhG21, bd_s, ld_G2 fhG21 hd, hG.f1 hd]
    unfold sr_
    by_cases q : ρ (13 + 6 * d + 1) = h
    · simp only [q, decide_true, if_true]
      exact ⟨σ, rfl, hC, fun _ _ => rfl⟩
    · simp only [q, decide_false, if_false, Bool.false_eq_true]
      obtain ⟨σ1, e1, g1, k1⟩ := c_tick fhG21 hG hI (by omega)
      obtain rfl : i = 200 := by omega
      rw [e1, fh_cb_s, fx_s, e_X4_shows_B38, if_pos (by decide), cb_id]
      exact (c_tell3 (hC.mv (fun b _ hb _ => k1 b hb))).bk (fun k hk => k1 k (by omega))
  | succ m ih =>
    intro i T hi hT fu hfu σ ρ hC hG hI
    obtain ⟨f, rfl⟩ : ∃ f, fu = f + 1 := ⟨fu - 1, by omega⟩
    rw [fx_s, e_X4_shows_B38, if_neg (nI_200 (by omega))]
    simp only [gr_0_2, gr_G1 fhG21, bd_s, ld_G2 fhG21 hd, hG.f1 hd]
    unfold sr_
    by_cases q : ρ (13 + 6 * d + 1) = h
    · simp only [q, decide_true, if_true]
      exact ⟨σ, rfl, hC, fun _ _ => rfl⟩
    · simp only [q, decide_false, if_false, Bool.false_eq_true]
      obtain ⟨σ1, e1, g1, k1⟩ := c_tick fhG21 hG hI (by omega)
      rw [e1, fh_cb_s, nI_1]
      exact (ih (i + 1) (T + 1) (by omega) (by omega) f (by omega) σ1 _ (hC.mv (fun b _ hb _ => k1 b hb)) g1 hI.tick).bk (fun k hk => k1 k (by omega))
theorem r_showsL {n d : Nat} {h : Int32} {A : fh_S} (hd : d < 10) : ∀ (m i T : Nat), i + m = 200 → ∀ fu : Nat, m < fu → ∀ (σ : fh_S), RB σ A → RI (σ 45) n T →
    rE (fh_fx (ρ := Int32 → fh_S → Option (Int32 × fh_S)) (fun _ _ => none) (f_X5_shows_B35 44 (nI d) h) fu (nI i) σ) σ (oA A (sr_ n (fun ρ => decide (ρ (13 + 6 * d + 1) = h)) m i (σ 45))) (oV (sr_ n (fun ρ => decide (ρ (13 + 6 * d + 1) = h)) m i (σ 45))) := by
  intro m
  induction m with
  | zero =>
    intro i T hi fu hfu σ hB hI
    obtain ⟨f, rfl⟩ : ∃ f, fu = f + 1 := ⟨fu - 1, by omega⟩
    obtain rfl : i = 200 := by omega
    rw [fx_s, e_X5_shows_B35, jn_s, if_pos (by decide), e_X5_shows_J62, r_is1 hd, fh_cb_s, jn_s]
    unfold sr_
    by_cases q : σ 45 (13 + 6 * d + 1) = h
    · simp only [q, decide_true, if_true, e_X5_shows_J79, cb_id]
      exact r_end hB (some 200) (fun k e => by cases e; omega)
    · simp only [q, decide_false, if_false, Bool.false_eq_true, e_X5_shows_J79, cb_id]
      exact r_end hB none (fun k e => by cases e)
  | succ m ih =>
    intro i T hi fu hfu σ hB hI
    obtain ⟨f, rfl⟩ : ∃ f, fu = f + 1 := ⟨fu - 1, by omega⟩
    rw [fx_s, e_X5_shows_B35, jn_s, show (200 : Int32) = nI 200 from rfl, if_neg (nI_ge (by omega) (by omega)), r_is1 hd, fh_cb_s]
    unfold sr_
    by_cases q : σ 45 (13 + 6 * d + 1) = h
    · simp only [q, decide_true, if_true, e_X5_shows_J62, r_is1 hd, fh_cb_s, jn_s, e_X5_shows_J79, cb_id]
      exact r_end hB (some i) (fun k e => by cases e; omega)
    · simp only [q, decide_false, if_false, Bool.false_eq_true]
      obtain ⟨σ1, e1, g1, k1⟩ := r_tick hI
      rw [e1, fh_cb_s, nI_1, ← g1]
      exact (ih (i + 1) (T + 1) (by omega) f (by omega) σ1 (hB.ticked (k := 1) hI.1 g1 k1) (by rw [g1]; exact hI.tick)).bk (fun k hk => k1 k (by omega) (by omega))
theorem s_shows (a b : Int32) : fh_Stp (f_X4_shows 0 a b) (f_X5_shows 44 a b) := by
  apply fh_Stp.mk
  intro N A σ τ hN hA hC hR
  obtain ⟨n, hI⟩ := hA.1
  have hn := hI.1
  have hIt : RI (τ 45) n (100 * N) := by rw [hR.1]; exact hI
  have hsz : σ 1 9 = nI n := by rw [hC.1.1]; exact hI.2.1
  unfold f_X4_shows f_X5_shows
  simp only [ob_H, ob_M, gr_0_0, gr_0_2, gr_44_0, gr_44_2, bd_s, r_isDial (show n ≤ 1000 by omega) hIt.2.1, c_has fhG1 hsz, c_isHour, r_isHour, fh_cb_s, cb_id, jn_s, e_X5_shows_J15, e_X4_shows_J18]
  rcases db_or a (show n ≤ 1000 by omega) with h | ⟨h, d, hd, rfl⟩
  · rw [h]
    simp only [if_true]
    exact ⟨_, _, hA.tell (by omega), c_tell0 hC, r_find0 hR⟩
  · rw [h]
    simp only [ne01, if_false]
    rcases wb_or b 0 719 with q | ⟨q, -⟩
    · rw [q]
      simp only [if_true]
      exact ⟨_, _, hA.tell (by omega), c_tell0 hC, r_find0 hR⟩
    · rw [q]
      simp only [ne01, if_false]
      obtain ⟨σ1, e1, g1, c1, k1⟩ := c_try hC
      obtain ⟨τ1, e2, b2, q2, k2⟩ := r_aside hR
      rw [e1, fh_cb_s, e2, fh_cb_s]
      have hc := c_showsL (n := n) (h := b) (A := A) (show d < 10 by omega) 200 0 (100 * N) (by omega) (by omega) fh_fu (by unfold fh_fu; omega) σ1 _ c1 g1 hI
      have hr := r_showsL (n := n) (h := b) (A := A) (show d < 10 by omega) 200 0 (100 * N) (by omega) fh_fu (by unfold fh_fu; omega) τ1 b2 (by rw [q2]; exact hIt)
      rw [q2, hR.1] at hr
      exact ⟨_, _, hA.o _, hc.bk (fun k hk => k1 k (by omega)), hr.bk (fun k hk => k2 k (by omega))⟩
