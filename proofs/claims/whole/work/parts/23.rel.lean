/-! ===== the state of both, related ===== -/
def CR (σ A : fh_S) : Prop := GR 1 σ (A 45) ∧ (A 44 3 = 1 → GR 11 σ (A 46)) ∧ σ 0 7 = A 44 3 ∧ (∀ j, j < 7 → σ 43 j = A 48 (j + 1)) ∧ σ 31 1 = A 44 7 ∧ (∀ j, j < 120 → σ 32 j = A 50 j) ∧ ∀ s, s < 4 → σ (35 + 2 * s) 1 = A 53 s ∧ σ (35 + 2 * s) 2 = A 54 s ∧ ∀ j, j < 40 → σ (36 + 2 * s) j = A 55 (40 * s + j)
def RR (σ A : fh_S) : Prop := σ 45 = A 45 ∧ σ 46 = A 46 ∧ σ 44 3 = A 44 3 ∧ σ 48 = A 48 ∧ σ 44 7 = A 44 7 ∧ σ 50 = A 50 ∧ σ 53 = A 53 ∧ σ 54 = A 54 ∧ σ 55 = A 55
def AI (A : fh_S) (N : Nat) : Prop := (∃ n, RI (A 45) n (100 * N)) ∧ (A 44 3 = 0 ∨ (A 44 3 = 1 ∧ ∃ n, RI (A 46) n (100 * N))) ∧ (∃ l, l ≤ 120 ∧ A 44 7 = nI l) ∧ (∀ j, j < 120 → ∃ b, b < 256 ∧ A 50 j = nI b) ∧ (∀ s, s < 4 → (A 53 s = 0 ∨ A 53 s = 8 ∨ A 53 s = 16 ∨ A 53 s = 32) ∧ ∃ z, z ≤ 40 ∧ A 54 s = nI z) ∧ A 48 0 = A 48 1 + A 48 2 + A 48 3 + A 48 4 + A 48 5 + A 48 6 + A 48 7
def cE {β : Type} (x : Option (β × fh_S)) (σ A' : fh_S) (v : β) : Prop := ∃ σ1, x = some (v, σ1) ∧ CR σ1 A' ∧ ∀ k, 44 ≤ k → σ1 k = σ k
def rE {β : Type} (x : Option (β × fh_S)) (σ A' : fh_S) (v : β) : Prop := ∃ σ2, x = some (v, σ2) ∧ RR σ2 A' ∧ ∀ k, k < 44 → σ2 k = σ k
def fh_Stp {β : Type} (c r : fh_S → Option (β × fh_S)) : Prop := ∀ (N : Nat) (A σ : fh_S), N < 512 → AI A N → CR σ A → RR σ A → ∃ v σ1 σ2 A', c σ = some (v, σ1) ∧ r σ1 = some (v, σ2) ∧ AI A' (N + 1) ∧ CR σ2 A' ∧ RR σ2 A'
theorem CR.mv {σ σ' A : fh_S} (h : CR σ A) (hk : ∀ k, k < 44 → ¬ (21 ≤ k ∧ k < 31) → k ≠ 33 → σ' k = σ k) : CR σ' A := by
  obtain ⟨h1, h2, h3, h4, h5, h6, h7⟩ := h
  refine ⟨h1.mv (fun k _ _ => hk k (by omega) (by omega) (by omega)), fun e => (h2 e).mv (fun k _ _ => hk k (by omega) (by omega) (by omega)), by rw [hk 0 (by omega) (by omega) (by omega)]; exact h3, fun j hj => by rw [hk 43 (by omega) (by omega) (by omega)]; exact h4 j hj, by rw [hk 31 (by omega) (by omega) (by omega)]; exact h5, fun j hj => by rw [hk 32 (by omega) (by omega) (by omega)]; exact h6 j hj, fun s hs => ?_⟩
  rw [hk (35 + 2 * s) (by omega) (by omega) (by omega), hk (36 + 2 * s) (by omega) (by omega) (by omega)]
  exact h7 s hs
theorem CR.now {σ σ' A : fh_S} {ρ : fh_Rw} (h : CR σ A) (hG : GR 1 σ' ρ) (hk : ∀ k, k < 44 → ¬ (1 ≤ k ∧ k < 11) → ¬ (21 ≤ k ∧ k < 31) → k ≠ 33 → σ' k = σ k) : CR σ' (fh_row A 45 ρ) := by
  obtain ⟨h1, h2, h3, h4, h5, h6, h7⟩ := h
  unfold CR
  rw [fh_row_s, fh_row_n (show 44 ≠ 45 by omega), fh_row_n (show 46 ≠ 45 by omega), fh_row_n (show 48 ≠ 45 by omega), fh_row_n (show 50 ≠ 45 by omega), fh_row_n (show 53 ≠ 45 by omega), fh_row_n (show 54 ≠ 45 by omega), fh_row_n (show 55 ≠ 45 by omega)]
  refine ⟨hG, fun e => (h2 e).mv (fun k _ _ => hk k (by omega) (by omega) (by omega) (by omega)), by rw [hk 0 (by omega) (by omega) (by omega) (by omega)]; exact h3, fun j hj => by rw [hk 43 (by omega) (by omega) (by omega) (by omega)]; exact h4 j hj, by rw [hk 31 (by omega) (by omega) (by omega) (by omega)]; exact h5, fun j hj => by rw [hk 32 (by omega) (by omega) (by omega) (by omega)]; exact h6 j hj, fun s hs => ?_⟩
  rw [hk (35 + 2 * s) (by omega) (by omega) (by omega) (by omega), hk (36 + 2 * s) (by omega) (by omega) (by omega) (by omega)]
  exact h7 s hs
theorem RR.mv {σ σ' A : fh_S} (h : RR σ A) (hk : ∀ k, 44 ≤ k → k ≠ 47 → k ≠ 49 → k ≠ 52 → k ≠ 56 → σ' k = σ k) : RR σ' A := by
  unfold RR
  rw [hk 45 (by omega) (by omega) (by omega) (by omega) (by omega), hk 46 (by omega) (by omega) (by omega) (by omega) (by omega), hk 44 (by omega) (by omega) (by omega) (by omega) (by omega), hk 48 (by omega) (by omega) (by omega) (by omega) (by omega), hk 50 (by omega) (by omega) (by omega) (by omega) (by omega), hk 53 (by omega) (by omega) (by omega) (by omega) (by omega), hk 54 (by omega) (by omega) (by omega) (by omega) (by omega), hk 55 (by omega) (by omega) (by omega) (by omega) (by omega)]
  exact h
theorem RR.now {σ σ' A : fh_S} {ρ : fh_Rw} (h : RR σ A) (hG : σ' 45 = ρ) (hk : ∀ k, 44 ≤ k → k ≠ 45 → k ≠ 47 → k ≠ 49 → k ≠ 52 → k ≠ 56 → σ' k = σ k) : RR σ' (fh_row A 45 ρ) := by
  unfold RR
  rw [fh_row_s, fh_row_n (show 44 ≠ 45 by omega), fh_row_n (show 46 ≠ 45 by omega), fh_row_n (show 48 ≠ 45 by omega), fh_row_n (show 50 ≠ 45 by omega), fh_row_n (show 53 ≠ 45 by omega), fh_row_n (show 54 ≠ 45 by omega), fh_row_n (show 55 ≠ 45 by omega), hk 46 (by omega) (by omega) (by omega) (by omega) (by omega) (by omega), hk 44 (by omega) (by omega) (by omega) (by omega) (by omega) (by omega), hk 48 (by omega) (by omega) (by omega) (by omega) (by omega) (by omega), hk 50 (by omega) (by omega) (by omega) (by omega) (by omega) (by omega), hk 53 (by omega) (by omega) (by omega) (by omega) (by omega) (by omega), hk 54 (by omega) (by omega) (by omega) (by omega) (by omega) (by omega), hk 55 (by omega) (by omega) (by omega) (by omega) (by omega) (by omega)]
  exact ⟨hG, h.2⟩
theorem RI.mono {ρ : fh_Rw} {n T T' : Nat} (h : RI ρ n T) (hT : T ≤ T') : RI ρ n T' := by
  obtain ⟨a, b, ⟨t, ht, et⟩, c⟩ := h
  exact ⟨a, b, ⟨t, by omega, et⟩, c⟩
theorem AI.mono {A : fh_S} {N N' : Nat} (h : AI A N) (hN : N ≤ N') : AI A N' := by
  obtain ⟨⟨n, h1⟩, h2, h3⟩ := h
  refine ⟨⟨n, h1.mono (by omega)⟩, ?_, h3⟩
  rcases h2 with h | ⟨h, m, hm⟩
  · exact Or.inl h
  · exact Or.inr ⟨h, m, hm.mono (by omega)⟩
theorem AI.now {A : fh_S} {N n : Nat} {ρ : fh_Rw} (h : AI A N) (hI : RI ρ n (100 * (N + 1))) : AI (fh_row A 45 ρ) (N + 1) := by
  obtain ⟨h1, h2, h3⟩ := h.mono (show N ≤ N + 1 by omega)
  unfold AI
  rw [fh_row_s, fh_row_n (show 44 ≠ 45 by omega), fh_row_n (show 46 ≠ 45 by omega), fh_row_n (show 48 ≠ 45 by omega), fh_row_n (show 50 ≠ 45 by omega), fh_row_n (show 53 ≠ 45 by omega), fh_row_n (show 54 ≠ 45 by omega)]
  exact ⟨⟨n, hI⟩, h2, h3⟩
theorem fh_Stp.mk {β : Type} {c r : fh_S → Option (β × fh_S)} (h : ∀ (N : Nat) (A σ τ : fh_S), N < 512 → AI A N → CR σ A → RR τ A → ∃ v A', AI A' (N + 1) ∧ cE (c σ) σ A' v ∧ rE (r τ) τ A' v) : fh_Stp c r := by
  intro N A σ hN hA hC hR
  obtain ⟨v, A', hA', ⟨σ1, e1, c1, k1⟩, -⟩ := h N A σ σ hN hA hC hR
  have hR1 : RR σ1 A := hR.mv (fun k hk _ _ _ _ => k1 k hk)
  obtain ⟨v', A'', hA'', ⟨σ1', e1', c1', k1'⟩, ⟨σ2, e2, r2, k2⟩⟩ := h N A σ σ1 hN hA hC hR1
  rw [e1] at e1'
  cases e1'
  exact ⟨v, σ1, σ2, A'', e1, e2, hA'', c1'.mv (fun k hk _ _ => k2 k hk), r2⟩
theorem cb_id {β : Type} {x : Option (β × fh_S)} : (fh_cb x fun r s => some (r, s)) = x := by
  cases x with
  | none => rfl
  | some q => rfl
theorem RR.m {σ A : fh_S} (h : RR σ A) : σ 45 = A 45 := h.1
/-! findings -/
def tA (A : fh_S) (j : Nat) : fh_S := fh_row A 48 (upd (upd (A 48) (j + 1) (A 48 (j + 1) + 1)) 0 (A 48 0 + 1))
theorem CR.tell {σ A : fh_S} (h : CR σ A) {j : Nat} (hj : j < 7) : CR (fs σ 43 j (σ 43 j + 1)) (tA A j) := by
  obtain ⟨h1, h2, h3, h4, h5, h6, h7⟩ := h
  unfold CR tA
  rw [fh_row_s, fh_row_n (show 44 ≠ 48 by omega), fh_row_n (show 46 ≠ 48 by omega), fh_row_n (show 45 ≠ 48 by omega), fh_row_n (show 50 ≠ 48 by omega), fh_row_n (show 53 ≠ 48 by omega), fh_row_n (show 54 ≠ 48 by omega), fh_row_n (show 55 ≠ 48 by omega)]
  refine ⟨h1.mv (fun k _ _ => fs_o (by omega)), fun e => (h2 e).mv (fun k _ _ => fs_o (by omega)), by rw [fs_o (by omega)]; exact h3, fun i hi => ?_, by rw [fs_o (by omega)]; exact h5, fun i hi => by rw [fs_o (by omega)]; exact h6 i hi, fun s hs => ?_⟩
  · rw [pk_un (by omega), fs_at, if_pos rfl]
    by_cases e : i = j
    · subst e; rw [if_pos rfl, pk_us, h4 i hi]
    · rw [if_neg e, pk_un (by omega)]; exact h4 i hi
  · rw [fs_o (by omega), fs_o (by omega)]
    exact h7 s hs
theorem RR.tell {σ A : fh_S} (h : RR σ A) {j : Nat} : RR (fs (fs σ 48 (j + 1) (σ 48 (j + 1) + 1)) 48 0 (σ 48 0 + 1)) (tA A j) := by
  obtain ⟨h1, h2, h3, h4, h5⟩ := h
  unfold RR tA
  rw [fh_row_s, fh_row_n (show 44 ≠ 48 by omega), fh_row_n (show 46 ≠ 48 by omega), fh_row_n (show 45 ≠ 48 by omega), fh_row_n (show 50 ≠ 48 by omega), fh_row_n (show 53 ≠ 48 by omega), fh_row_n (show 54 ≠ 48 by omega), fh_row_n (show 55 ≠ 48 by omega), fs_row, fs_row, h4]
  simp only [fs_o (show 45 ≠ 48 by omega), fs_o (show 44 ≠ 48 by omega), fs_o (show 46 ≠ 48 by omega), fs_o (show 50 ≠ 48 by omega), fs_o (show 53 ≠ 48 by omega), fs_o (show 54 ≠ 48 by omega), fs_o (show 55 ≠ 48 by omega)]
  exact ⟨h1, h2, h3, trivial, h5⟩
theorem AI.tell {A : fh_S} {N : Nat} (h : AI A N) {j : Nat} (hj : j < 7) : AI (tA A j) (N + 1) := by
  obtain ⟨h1, h2, h3, h4, h5, h6⟩ := h.mono (show N ≤ N + 1 by omega)
  unfold AI tA
  rw [fh_row_s, fh_row_n (show 44 ≠ 48 by omega), fh_row_n (show 46 ≠ 48 by omega), fh_row_n (show 45 ≠ 48 by omega), fh_row_n (show 50 ≠ 48 by omega), fh_row_n (show 53 ≠ 48 by omega), fh_row_n (show 54 ≠ 48 by omega)]
  refine ⟨h1, h2, h3, h4, h5, ?_⟩
  rcases (show j = 0 ∨ j = 1 ∨ j = 2 ∨ j = 3 ∨ j = 4 ∨ j = 5 ∨ j = 6 by omega) with rfl | rfl | rfl | rfl | rfl | rfl | rfl <;> simp [upd, h6] <;> ac_rfl
theorem c_tell0 {σ A : fh_S} (h : CR σ A) : cE (f_X4_tell 0 (-1000001) σ) σ (tA A 0) (-1000001) := by
  refine ⟨fs σ 43 0 (σ 43 0 + 1), ?_, h.tell (by omega), fun k hk => fs_o (by omega)⟩
  unfold f_X4_tell
  simp only [ob_H, c_isWithin, fh_cb_s, gr_0_6, bd_s]
  rw [show wb ((-1000001 : Int32) - (-1000001)) 0 6 = 1 from by decide, if_neg (by decide), show (-1000001 : Int32) - (-1000001) = nI 0 from by decide, ld_43 (by omega), bd_s, st_43 (by omega), bd_s]
theorem r_find0 {σ A : fh_S} (h : RR σ A) : rE (f_X5_finding 44 (-1000001) σ) σ (tA A 0) (-1000001) := by
  refine ⟨fs (fs σ 48 (0 + 1) (σ 48 (0 + 1) + 1)) 48 0 (σ 48 0 + 1), ?_, h.tell, fun k hk => by rw [fs_o (by omega), fs_o (by omega)]⟩
  unfold f_X5_finding
  simp only [ob_M, gr_44_4, bd_s]
  rw [show (-1000001 : Int32) - (-1000001) + 1 = nI 1 from by decide, ld_48 (by omega), bd_s, st_48 (by omega), bd_s, show (0 : Int32) = nI 0 from rfl, ld_48 (by omega), bd_s, st_48 (by omega), bd_s, fs_ne (by omega)]
theorem c_tell1 {σ A : fh_S} (h : CR σ A) : cE (f_X4_tell 0 (-1000002) σ) σ (tA A 1) (-1000002) := by
  refine ⟨fs σ 43 1 (σ 43 1 + 1), ?_, h.tell (by omega), fun k hk => fs_o (by omega)⟩
  unfold f_X4_tell
  simp only [ob_H, c_isWithin, fh_cb_s, gr_0_6, bd_s]
  rw [show wb ((-1000001 : Int32) - (-1000002)) 0 6 = 1 from by decide, if_neg (by decide), show (-1000001 : Int32) - (-1000002) = nI 1 from by decide, ld_43 (by omega), bd_s, st_43 (by omega), bd_s]
theorem r_find1 {σ A : fh_S} (h : RR σ A) : rE (f_X5_finding 44 (-1000002) σ) σ (tA A 1) (-1000002) := by
  refine ⟨fs (fs σ 48 (1 + 1) (σ 48 (1 + 1) + 1)) 48 0 (σ 48 0 + 1), ?_, h.tell, fun k hk => by rw [fs_o (by omega), fs_o (by omega)]⟩
  unfold f_X5_finding
  simp only [ob_M, gr_44_4, bd_s]
  rw [show (-1000001 : Int32) - (-1000002) + 1 = nI 2 from by decide, ld_48 (by omega), bd_s, st_48 (by omega), bd_s, show (0 : Int32) = nI 0 from rfl, ld_48 (by omega), bd_s, st_48 (by omega), bd_s, fs_ne (by omega)]
theorem c_tell2 {σ A : fh_S} (h : CR σ A) : cE (f_X4_tell 0 (-1000003) σ) σ (tA A 2) (-1000003) := by
  refine ⟨fs σ 43 2 (σ 43 2 + 1), ?_, h.tell (by omega), fun k hk => fs_o (by omega)⟩
  unfold f_X4_tell
  simp only [ob_H, c_isWithin, fh_cb_s, gr_0_6, bd_s]
  rw [show wb ((-1000001 : Int32) - (-1000003)) 0 6 = 1 from by decide, if_neg (by decide), show (-1000001 : Int32) - (-1000003) = nI 2 from by decide, ld_43 (by omega), bd_s, st_43 (by omega), bd_s]
theorem r_find2 {σ A : fh_S} (h : RR σ A) : rE (f_X5_finding 44 (-1000003) σ) σ (tA A 2) (-1000003) := by
  refine ⟨fs (fs σ 48 (2 + 1) (σ 48 (2 + 1) + 1)) 48 0 (σ 48 0 + 1), ?_, h.tell, fun k hk => by rw [fs_o (by omega), fs_o (by omega)]⟩
  unfold f_X5_finding
  simp only [ob_M, gr_44_4, bd_s]
  rw [show (-1000001 : Int32) - (-1000003) + 1 = nI 3 from by decide, ld_48 (by omega), bd_s, st_48 (by omega), bd_s, show (0 : Int32) = nI 0 from rfl, ld_48 (by omega), bd_s, st_48 (by omega), bd_s, fs_ne (by omega)]
theorem c_tell3 {σ A : fh_S} (h : CR σ A) : cE (f_X4_tell 0 (-1000004) σ) σ (tA A 3) (-1000004) := by
  refine ⟨fs σ 43 3 (σ 43 3 + 1), ?_, h.tell (by omega), fun k hk => fs_o (by omega)⟩
  unfold f_X4_tell
  simp only [ob_H, c_isWithin, fh_cb_s, gr_0_6, bd_s]
  rw [show wb ((-1000001 : Int32) - (-1000004)) 0 6 = 1 from by decide, if_neg (by decide), show (-1000001 : Int32) - (-1000004) = nI 3 from by decide, ld_43 (by omega), bd_s, st_43 (by omega), bd_s]
theorem r_find3 {σ A : fh_S} (h : RR σ A) : rE (f_X5_finding 44 (-1000004) σ) σ (tA A 3) (-1000004) := by
  refine ⟨fs (fs σ 48 (3 + 1) (σ 48 (3 + 1) + 1)) 48 0 (σ 48 0 + 1), ?_, h.tell, fun k hk => by rw [fs_o (by omega), fs_o (by omega)]⟩
  unfold f_X5_finding
  simp only [ob_M, gr_44_4, bd_s]
  rw [show (-1000001 : Int32) - (-1000004) + 1 = nI 4 from by decide, ld_48 (by omega), bd_s, st_48 (by omega), bd_s, show (0 : Int32) = nI 0 from rfl, ld_48 (by omega), bd_s, st_48 (by omega), bd_s, fs_ne (by omega)]
theorem c_tell4 {σ A : fh_S} (h : CR σ A) : cE (f_X4_tell 0 (-1000005) σ) σ (tA A 4) (-1000005) := by
  refine ⟨fs σ 43 4 (σ 43 4 + 1), ?_, h.tell (by omega), fun k hk => fs_o (by omega)⟩
  unfold f_X4_tell
  simp only [ob_H, c_isWithin, fh_cb_s, gr_0_6, bd_s]
  rw [show wb ((-1000001 : Int32) - (-1000005)) 0 6 = 1 from by decide, if_neg (by decide), show (-1000001 : Int32) - (-1000005) = nI 4 from by decide, ld_43 (by omega), bd_s, st_43 (by omega), bd_s]
theorem r_find4 {σ A : fh_S} (h : RR σ A) : rE (f_X5_finding 44 (-1000005) σ) σ (tA A 4) (-1000005) := by
  refine ⟨fs (fs σ 48 (4 + 1) (σ 48 (4 + 1) + 1)) 48 0 (σ 48 0 + 1), ?_, h.tell, fun k hk => by rw [fs_o (by omega), fs_o (by omega)]⟩
  unfold f_X5_finding
  simp only [ob_M, gr_44_4, bd_s]
  rw [show (-1000001 : Int32) - (-1000005) + 1 = nI 5 from by decide, ld_48 (by omega), bd_s, st_48 (by omega), bd_s, show (0 : Int32) = nI 0 from rfl, ld_48 (by omega), bd_s, st_48 (by omega), bd_s, fs_ne (by omega)]
theorem c_tell5 {σ A : fh_S} (h : CR σ A) : cE (f_X4_tell 0 (-1000006) σ) σ (tA A 5) (-1000006) := by
  refine ⟨fs σ 43 5 (σ 43 5 + 1), ?_, h.tell (by omega), fun k hk => fs_o (by omega)⟩
  unfold f_X4_tell
  simp only [ob_H, c_isWithin, fh_cb_s, gr_0_6, bd_s]
  rw [show wb ((-1000001 : Int32) - (-1000006)) 0 6 = 1 from by decide, if_neg (by decide), show (-1000001 : Int32) - (-1000006) = nI 5 from by decide, ld_43 (by omega), bd_s, st_43 (by omega), bd_s]
theorem r_find5 {σ A : fh_S} (h : RR σ A) : rE (f_X5_finding 44 (-1000006) σ) σ (tA A 5) (-1000006) := by
  refine ⟨fs (fs σ 48 (5 + 1) (σ 48 (5 + 1) + 1)) 48 0 (σ 48 0 + 1), ?_, h.tell, fun k hk => by rw [fs_o (by omega), fs_o (by omega)]⟩
  unfold f_X5_finding
  simp only [ob_M, gr_44_4, bd_s]
  rw [show (-1000001 : Int32) - (-1000006) + 1 = nI 6 from by decide, ld_48 (by omega), bd_s, st_48 (by omega), bd_s, show (0 : Int32) = nI 0 from rfl, ld_48 (by omega), bd_s, st_48 (by omega), bd_s, fs_ne (by omega)]
theorem c_tell6 {σ A : fh_S} (h : CR σ A) : cE (f_X4_tell 0 (-1000007) σ) σ (tA A 6) (-1000007) := by
  refine ⟨fs σ 43 6 (σ 43 6 + 1), ?_, h.tell (by omega), fun k hk => fs_o (by omega)⟩
  unfold f_X4_tell
  simp only [ob_H, c_isWithin, fh_cb_s, gr_0_6, bd_s]
  rw [show wb ((-1000001 : Int32) - (-1000007)) 0 6 = 1 from by decide, if_neg (by decide), show (-1000001 : Int32) - (-1000007) = nI 6 from by decide, ld_43 (by omega), bd_s, st_43 (by omega), bd_s]
theorem r_find6 {σ A : fh_S} (h : RR σ A) : rE (f_X5_finding 44 (-1000007) σ) σ (tA A 6) (-1000007) := by
  refine ⟨fs (fs σ 48 (6 + 1) (σ 48 (6 + 1) + 1)) 48 0 (σ 48 0 + 1), ?_, h.tell, fun k hk => by rw [fs_o (by omega), fs_o (by omega)]⟩
  unfold f_X5_finding
  simp only [ob_M, gr_44_4, bd_s]
  rw [show (-1000001 : Int32) - (-1000007) + 1 = nI 7 from by decide, ld_48 (by omega), bd_s, st_48 (by omega), bd_s, show (0 : Int32) = nI 0 from rfl, ld_48 (by omega), bd_s, st_48 (by omega), bd_s, fs_ne (by omega)]
theorem nI_m1 {n : Nat} (h : n ≤ 1000) : (nI n - 1).toInt = (n : Int) - 1 := by
  rw [sm_sub (by rw [nI_toInt (by omega)]; omega) (by decide), nI_toInt (by omega)]; rfl
/-! which int is a dial -/
def db (a : Int32) (n : Nat) : Int32 := if a < 0 then 0 else if nI n ≤ a then 0 else 1
theorem db_or (a : Int32) {n : Nat} (hn : n ≤ 1000) : db a n = 0 ∨ (db a n = 1 ∧ ∃ d, d < n ∧ a = nI d) := by
  unfold db
  split
  · exact Or.inl rfl
  · rename_i h1
    split
    · exact Or.inl rfl
    · rename_i h2
      rcases pk_ix a (n := n) (by omega) with h | h | h
      · exact absurd h h1
      · exact absurd h h2
      · exact Or.inr ⟨rfl, h⟩
theorem db_rz {a : Int32} {n : Nat} {σ : fh_S} : fh_rz (db a n) σ = some (db a n, σ) := by
  unfold db
  split
  · rfl
  · split <;> rfl
theorem c_has {g n : Nat} {a : Int32} {σ : fh_S} (hg : fh_G g) (h : σ g 9 = nI n) : f_X0_has g a σ = some (db a n, σ) := by
  unfold f_X0_has db
  simp only [ob_G hg, gi_G9 hg, bd_s, h]
  split
  · rfl
  · split <;> rfl
theorem wb_db {a : Int32} {n : Nat} (hn : n ≤ 1000) : wb a 0 (nI n - 1) = db a n := by
  unfold wb db
  split
  · rfl
  · rename_i h1
    have h1' : 0 ≤ a.toInt := i32_nn.mp (Int32.not_lt.mp h1)
    have e : nI n - 1 < a ↔ nI n ≤ a := by
      rw [Int32.lt_iff_toInt_lt, Int32.le_iff_toInt_le, nI_m1 hn, nI_toInt (by omega)]
      omega
    by_cases h2 : nI n ≤ a
    · rw [if_pos h2, if_pos (e.mpr h2)]
    · rw [if_neg h2, if_neg (fun z => h2 (e.mp z))]
theorem r_isDial {n : Nat} {a : Int32} {σ : fh_S} (hn : n ≤ 1000) (h : σ 45 1 = nI n) : f_X5_isDial 44 a σ = some (db a n, σ) := by
  unfold f_X5_isDial
  simp only [ob_M, gr_44_0, bd_s, ld_45_1, r_within, fh_cb_s, h, wb_db hn, db_rz]
/-! fields of a row -/
def okf (n f : Nat) (v : Int32) : Prop := (f = 0 → ∃ k, k < 7 ∧ v = nI k) ∧ (f = 1 → ∃ h, h < 720 ∧ v = nI h) ∧ (f = 2 → ∃ m, m < n ∧ v = nI m) ∧ (f = 3 → -99 ≤ v.toInt ∧ v.toInt ≤ 99) ∧ (f = 4 → v = 0 ∨ v = 1) ∧ (f = 5 → ∃ m, m < 10 ∧ v = nI m)
theorem RI.ok {ρ : fh_Rw} {n T : Nat} (h : RI ρ n T) {d f : Nat} (hd : d < n) : okf n f (ρ (13 + 6 * d + f)) := by
  obtain ⟨a0, a1, a2, a3, a4, a5⟩ := h.2.2.2.2 d hd
  exact ⟨fun e => e ▸ a0, fun e => e ▸ a1, fun e => e ▸ a2, fun e => e ▸ a3, fun e => e ▸ a4, fun e => e ▸ a5⟩
theorem RI.of {ρ : fh_Rw} {n T : Nat} (hn : n ≤ 10) (h1 : ρ 1 = nI n) (h0 : ∃ t, t ≤ T ∧ ρ 0 = nI t) (hs : ∀ j, j < 10 → ρ (3 + j) = -1 ∨ ∃ m, m < n ∧ ρ (3 + j) = nI m) (h : ∀ d, d < n → ∀ f, f < 6 → okf n f (ρ (13 + 6 * d + f))) : RI ρ n T :=
  ⟨hn, h1, h0, hs, fun d hd => ⟨(h d hd 0 (by omega)).1 rfl, (h d hd 1 (by omega)).2.1 rfl, (h d hd 2 (by omega)).2.2.1 rfl, (h d hd 3 (by omega)).2.2.2.1 rfl, (h d hd 4 (by omega)).2.2.2.2.1 rfl, (h d hd 5 (by omega)).2.2.2.2.2 rfl⟩⟩
theorem RI.set {ρ : fh_Rw} {n T : Nat} (h : RI ρ n T) {d f : Nat} {v : Int32} (hd : d < n) (hf : f < 6) (hv : okf n f v) : RI (upd ρ (13 + 6 * d + f) v) n T := by
  have hn := h.1
  refine RI.of hn (by rw [pk_un (by omega)]; exact h.2.1) (by rw [pk_un (by omega)]; exact h.2.2.1) (fun j hj => by rw [pk_un (by omega)]; exact h.2.2.2.1 j hj) (fun d' hd' f' hf' => ?_)
  by_cases e : d' = d ∧ f' = f
  · obtain ⟨rfl, rfl⟩ := e
    rw [pk_us]; exact hv
  · rw [pk_un (by omega)]
    exact h.ok hd'
/-- a new dial's row -/
def cm_ (ρ : fh_Rw) (n : Nat) (k h m g s ms : Int32) : fh_Rw := upd (upd (upd (upd (upd (upd (upd ρ (13 + 6 * n + 0) k) (13 + 6 * n + 1) h) (13 + 6 * n + 2) m) (13 + 6 * n + 3) g) (13 + 6 * n + 4) s) (13 + 6 * n + 5) ms) 1 (nI (n + 1))
theorem cm_lo {ρ : fh_Rw} {n j : Nat} {k h m g s ms : Int32} (h1 : j ≠ 1) (hj : j < 13 + 6 * n) : cm_ ρ n k h m g s ms j = ρ j := by
  unfold cm_
  rw [pk_un h1, pk_un (by omega), pk_un (by omega), pk_un (by omega), pk_un (by omega), pk_un (by omega), pk_un (by omega)]
theorem RI.comes {ρ : fh_Rw} {n T : Nat} (h : RI ρ n T) (hn : n < 10) {k hh m g s ms : Int32} (o0 : okf (n + 1) 0 k) (o1 : okf (n + 1) 1 hh) (o2 : okf (n + 1) 2 m) (o3 : okf (n + 1) 3 g) (o4 : okf (n + 1) 4 s) (o5 : okf (n + 1) 5 ms) : RI (cm_ ρ n k hh m g s ms) (n + 1) T := by
  refine RI.of (by omega) (by unfold cm_; rw [pk_us]) (by rw [cm_lo (by omega) (by omega)]; exact h.2.2.1) (fun j hj => ?_) (fun d hd f hf => ?_)
  · rw [cm_lo (by omega) (by omega)]
    rcases h.2.2.2.1 j hj with q | ⟨m, hm, e⟩
    · exact Or.inl q
    · exact Or.inr ⟨m, by omega, e⟩
  · by_cases e : d = n
    · subst e
      unfold cm_
      rw [pk_un (by omega)]
      rcases (show f = 0 ∨ f = 1 ∨ f = 2 ∨ f = 3 ∨ f = 4 ∨ f = 5 by omega) with rfl | rfl | rfl | rfl | rfl | rfl
      · rw [pk_un (by omega), pk_un (by omega), pk_un (by omega), pk_un (by omega), pk_un (by omega), pk_us]; exact o0
      · rw [pk_un (by omega), pk_un (by omega), pk_un (by omega), pk_un (by omega), pk_us]; exact o1
      · rw [pk_un (by omega), pk_un (by omega), pk_un (by omega), pk_us]; exact o2
      · rw [pk_un (by omega), pk_un (by omega), pk_us]; exact o3
      · rw [pk_un (by omega), pk_us]; exact o4
      · rw [pk_us]; exact o5
    · rw [cm_lo (by omega) (by omega)]
      obtain ⟨a0, a1, a2, a3, a4, a5⟩ := h.ok (f := f) (show d < n by omega)
      exact ⟨a0, a1, fun e => by obtain ⟨m, hm, q⟩ := a2 e; exact ⟨m, by omega, q⟩, a3, a4, a5⟩
theorem GR.sz {g : Nat} {σ : fh_S} {ρ : fh_Rw} (h : GR g σ ρ) (v : Int32) : GR g (fs σ g 9 v) (upd ρ 1 v) := by
  obtain ⟨h1, h2, h3, h4, h5⟩ := h
  refine ⟨by rw [fs_s, pk_us], by rw [fs_ne (by omega), pk_un (by omega)]; exact h2, by rw [fs_ne (by omega), pk_un (by omega)]; exact h3, fun j hj => by rw [fs_o (by omega), pk_un (by omega)]; exact h4 j hj, fun f hf d hd => by rw [fs_o (by omega), pk_un (by omega)]; exact h5 f hf d hd⟩
theorem GR.dr {g : Nat} {σ : fh_S} {ρ : fh_Rw} (h : GR g σ ρ) (v : Int32) : GR g (fs σ g 11 v) (upd ρ 2 v) := by
  obtain ⟨h1, h2, h3, h4, h5⟩ := h
  refine ⟨by rw [fs_ne (by omega), pk_un (by omega)]; exact h1, by rw [fs_ne (by omega), pk_un (by omega)]; exact h2, by rw [fs_s, pk_us], fun j hj => by rw [fs_o (by omega), pk_un (by omega)]; exact h4 j hj, fun f hf d hd => by rw [fs_o (by omega), pk_un (by omega)]; exact h5 f hf d hd⟩
theorem GR.sp {g : Nat} {σ : fh_S} {ρ : fh_Rw} (h : GR g σ ρ) {j : Nat} (hj : j < 10) (v : Int32) : GR g (fs σ (g + 7) j v) (upd ρ (3 + j) v) := by
  obtain ⟨h1, h2, h3, h4, h5⟩ := h
  refine ⟨by rw [fs_o (by omega), pk_un (by omega)]; exact h1, by rw [fs_o (by omega), pk_un (by omega)]; exact h2, by rw [fs_o (by omega), pk_un (by omega)]; exact h3, fun i hi => ?_, fun f hf d hd => by rw [fs_o (by omega), pk_un (by omega)]; exact h5 f hf d hd⟩
  rw [fs_at, if_pos rfl]
  by_cases e : i = j
  · subst e; rw [if_pos rfl, pk_us]
  · rw [if_neg e, pk_un (by omega)]; exact h4 i hi
