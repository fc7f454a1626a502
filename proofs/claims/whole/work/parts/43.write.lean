/-! ===== sheets: write ===== -/
theorem s4 {s : Nat} (h : s < 4) : s = 0 ∨ s = 1 ∨ s = 2 ∨ s = 3 := by omega
theorem lr_s {s : Nat} (h : s < 4) : fh_lr 34 (nI s) = some (35 + 2 * s) := by rcases s4 h with rfl | rfl | rfl | rfl <;> rfl
theorem ob_S {β : Type} {s : Nat} {x : Option β} (h : s < 4) : fh_ob 2 (35 + 2 * s) x = x := ob_t (by rcases s4 h with rfl | rfl | rfl | rfl <;> rfl)
theorem gr_S0 {s : Nat} (h : s < 4) : fh_gr 2 (35 + 2 * s) 0 = some (36 + 2 * s) := by rcases s4 h with rfl | rfl | rfl | rfl <;> rfl
theorem gi_S1 {s : Nat} {σ : fh_S} (h : s < 4) : fh_gi σ 2 (35 + 2 * s) 1 = some (σ (35 + 2 * s) 1) := by rcases s4 h with rfl | rfl | rfl | rfl <;> rfl
theorem gi_S2 {s : Nat} {σ : fh_S} (h : s < 4) : fh_gi σ 2 (35 + 2 * s) 2 = some (σ (35 + 2 * s) 2) := by rcases s4 h with rfl | rfl | rfl | rfl <;> rfl
theorem pf_S1 {s : Nat} {σ : fh_S} {v : Int32} (h : s < 4) : fh_pf σ 2 (35 + 2 * s) 1 v = some (fs σ (35 + 2 * s) 1 v) := by rcases s4 h with rfl | rfl | rfl | rfl <;> rfl
theorem pf_S2 {s : Nat} {σ : fh_S} {v : Int32} (h : s < 4) : fh_pf σ 2 (35 + 2 * s) 2 v = some (fs σ (35 + 2 * s) 2 v) := by rcases s4 h with rfl | rfl | rfl | rfl <;> rfl
theorem ar_S {s : Nat} (h : s < 4) : fh_arr (36 + 2 * s) = some 40 := by rcases s4 h with rfl | rfl | rfl | rfl <;> rfl
theorem ld_S {s j : Nat} {σ : fh_S} (h : s < 4) (hj : j < 40) : fh_ld σ (36 + 2 * s) (nI j) = some (σ (36 + 2 * s) j) := ld_ok (ar_S h) hj (by omega)
theorem st_S {s j : Nat} {σ : fh_S} {v : Int32} (h : s < 4) (hj : j < 40) : fh_st σ (36 + 2 * s) (nI j) v = some (fs σ (36 + 2 * s) j v) := st_ok (ar_S h) hj (by omega)
theorem at_55 (s j : Nat) : (40 : Int32) * nI s + nI j = nI (40 * s + j) := by
  rw [show (40 : Int32) = nI 40 from rfl, pk_mul, nI_add]
theorem CR.sh {σ A : fh_S} (h : CR σ A) {s : Nat} (hs : s < 4) : σ (35 + 2 * s) 1 = A 53 s ∧ σ (35 + 2 * s) 2 = A 54 s ∧ ∀ j, j < 40 → σ (36 + 2 * s) j = A 55 (40 * s + j) := h.2.2.2.2.2.2 s hs
theorem c_miss {s : Nat} {σ A : fh_S} (hs : s < 4) (hC : CR σ A) : f_X2_isMissing (35 + 2 * s) σ = some (if A 53 s = 0 then 1 else 0, σ) := by
  unfold f_X2_isMissing
  rw [ob_S hs, gi_S1 hs, bd_s, (hC.sh hs).1]
  split
  · rfl
  · rfl
theorem c_fosB {a : Int32} {σ : fh_S} (h : wb a 0 3 = 0) : f_X4_findingOfSheet 0 a σ = some (-1000001, σ) := by
  unfold f_X4_findingOfSheet
  rw [ob_H, c_isSheet, fh_cb_s, h, if_pos rfl]
theorem c_fos {s : Nat} {σ A : fh_S} (hs : s < 4) (hw : wb (nI s) 0 3 = 1) (hC : CR σ A) : f_X4_findingOfSheet 0 (nI s) σ = some (if A 53 s = 0 then -1000006 else 0, σ) := by
  unfold f_X4_findingOfSheet
  rw [ob_H, c_isSheet, fh_cb_s, hw, if_neg ne01, gr_0_5, bd_s, lr_s hs, bd_s, c_miss hs hC, fh_cb_s]
  by_cases q : A 53 s = 0
  · rw [if_pos q, if_neg ne01, if_pos q]
  · rw [if_neg q, if_pos rfl, if_neg q]
theorem r_lackB {a : Int32} {σ : fh_S} (h : wb a 0 3 = 0) : f_X5_lacks 44 a σ = some (-1000001, σ) := by
  unfold f_X5_lacks
  rw [ob_M, r_isSheet, fh_cb_s, h, if_pos rfl]
theorem r_lack {s : Nat} {σ A : fh_S} (hs : s < 4) (hw : wb (nI s) 0 3 = 1) (hR : RR σ A) : f_X5_lacks 44 (nI s) σ = some (if A 53 s = 0 then -1000006 else 0, σ) := by
  unfold f_X5_lacks
  rw [ob_M, r_isSheet, fh_cb_s, hw, if_neg ne01, gr_44_17, bd_s, ld_53 hs, bd_s, hR.2.2.2.2.2.2.1]
  by_cases q : A 53 s = 0
  · rw [if_pos q, if_pos q]
  · rw [if_neg q, if_neg q]
theorem CR.num {σ A : fh_S} {s j : Nat} {v : Int32} (h : CR σ A) (hs : s < 4) (hj : j < 40) : CR (fs σ (36 + 2 * s) j v) (fs A 55 (40 * s + j) v) := by
  obtain ⟨h1, h2, h3, h4, h5, h6, h7⟩ := h
  unfold CR
  rw [fs_o (σ := A) (show 45 ≠ 55 by omega), fs_o (σ := A) (show 46 ≠ 55 by omega), fs_o (σ := A) (show 48 ≠ 55 by omega), fs_o (σ := A) (show 44 ≠ 55 by omega), fs_o (σ := A) (show 53 ≠ 55 by omega), fs_o (σ := A) (show 54 ≠ 55 by omega), fs_o (σ := A) (show 50 ≠ 55 by omega)]
  refine ⟨h1.mv (fun k _ _ => fs_o (by omega)), fun e => (h2 e).mv (fun k _ _ => fs_o (by omega)), by rw [fs_o (by omega)]; exact h3, fun j hj => by rw [fs_o (by omega)]; exact h4 j hj, by rw [fs_o (by omega)]; exact h5, fun j hj => by rw [fs_o (by omega)]; exact h6 j hj, fun s' hs' => ?_⟩
  obtain ⟨a1, a2, a3⟩ := h7 s' hs'
  rw [fs_o (show 35 + 2 * s' ≠ 36 + 2 * s by omega)]
  refine ⟨a1, a2, fun j' hj' => ?_⟩
  rw [fs_at, fs_at, if_pos rfl]
  by_cases q : s' = s
  · subst q
    rw [if_pos rfl]
    by_cases w : j' = j
    · rw [if_pos w, if_pos (by omega)]
    · rw [if_neg w, if_neg (by omega)]
      exact a3 j' hj'
  · rw [if_neg (by omega), if_neg (by omega)]
    exact a3 j' hj'
theorem RR.num {σ A : fh_S} {l : Nat} {v : Int32} (h : RR σ A) : RR (fs σ 55 l v) (fs A 55 l v) := by
  obtain ⟨h1, h2, h3, h4, h5, h6, h7, h8, h9⟩ := h
  unfold RR
  simp only [fs_o (show 45 ≠ 55 by omega), fs_o (show 46 ≠ 55 by omega), fs_o (show 48 ≠ 55 by omega), fs_o (show 44 ≠ 55 by omega), fs_o (show 53 ≠ 55 by omega), fs_o (show 54 ≠ 55 by omega), fs_o (show 50 ≠ 55 by omega)]
  refine ⟨h1, h2, h3, h4, h5, h6, h7, h8, ?_⟩
  funext j
  rw [fs_at, fs_at, if_pos rfl, if_pos rfl, h9]
theorem AI.num {A : fh_S} {N l : Nat} {v : Int32} (h : AI A N) : AI (fs A 55 l v) N := by
  unfold AI
  simp only [fs_o (show 45 ≠ 55 by omega), fs_o (show 46 ≠ 55 by omega), fs_o (show 48 ≠ 55 by omega), fs_o (show 44 ≠ 55 by omega), fs_o (show 53 ≠ 55 by omega), fs_o (show 54 ≠ 55 by omega), fs_o (show 50 ≠ 55 by omega)]
  exact h
def ct8 (v w : Int32) : Int32 := if w = 8 then v.toInt8.toInt32 else if w = 16 then v.toInt16.toInt32 else v
theorem c_put {s j : Nat} {v : Int32} {σ A : fh_S} (hs : s < 4) (hj : j < 40) (hC : CR σ A) : f_X2_put (35 + 2 * s) (nI j) v σ = some ((), fs σ (36 + 2 * s) j (ct8 v (A 53 s))) := by
  unfold f_X2_put ct8
  rw [ob_S hs, gi_S1 hs, bd_s, (hC.sh hs).1, gr_S0 hs, bd_s, bd_s, bd_s, st_S hs hj, bd_s, st_S hs hj, bd_s, st_S hs hj, bd_s]
  split
  · rfl
  · split
    · rfl
    · rfl
theorem r_cutTo {v w : Int32} {σ : fh_S} : f_X5_cutTo v w σ = some (ct8 v w, σ) := by
  unfold f_X5_cutTo ct8
  split
  · rfl
  · split
    · rfl
    · rfl
theorem s_write (a b c : Int32) : fh_Stp (f_X4_write 0 a b c) (f_X5_write 44 a b c) := by
  apply fh_Stp.mk
  intro N A σ τ hN hA hC hR
  unfold f_X4_write f_X5_write
  rw [ob_H, ob_M, r_isSheet, fh_cb_s]
  simp only [jn_s]
  rcases wb_or a 0 3 with q | ⟨q, -⟩
  · rw [c_fosB q, fh_cb_s, q, if_pos (show (0 : Int32) = 0 from rfl), if_neg (show ¬ (-1000001 : Int32) = 0 by decide), e_X4_write_J35, if_neg (show ¬ (-1000001 : Int32) = 0 by decide), cb_id, cb_id]
    exact ⟨_, _, hA.tell (by omega), c_tell0 hC, r_find0 hR⟩
  · obtain ⟨s, hs, rfl⟩ := wb_nI (a := a) (h := 3) (by omega) q
    have hs : s < 4 := by omega
    obtain ⟨-, z, hz, ez⟩ := hA.2.2.2.2.1 s hs
    rw [c_fos hs q hC, fh_cb_s, q, if_neg ne01, gr_44_17, bd_s, ld_53 hs, bd_s, hR.2.2.2.2.2.2.1]
    by_cases w : A 53 s = 0
    · rw [if_pos w, if_pos w, if_neg (show ¬ (-1000006 : Int32) = 0 by decide), e_X4_write_J35, if_neg (show ¬ (-1000006 : Int32) = 0 by decide), cb_id, cb_id]
      exact ⟨_, _, hA.tell (by omega), c_tell5 hC, r_find5 hR⟩
    · rw [if_neg w, if_neg w, if_pos (show (0 : Int32) = 0 from rfl), gr_0_5, bd_s, lr_s hs, bd_s, gi_S2 hs, bd_s, (hC.sh hs).2.1, c_isWithin, fh_cb_s, gr_44_18, bd_s, ld_54 hs, bd_s, hR.2.2.2.2.2.2.2.1, ez, r_within, fh_cb_s, wb_db (show z ≤ 1000 by omega)]
      rcases db_or b (show z ≤ 1000 by omega) with h | ⟨h, j, hj, rfl⟩
      · rw [h, if_pos rfl, if_pos rfl, e_X4_write_J35, if_neg (show ¬ (-1000001 : Int32) = 0 by decide), cb_id, cb_id]
        exact ⟨_, _, hA.tell (by omega), c_tell0 hC, r_find0 hR⟩
      · rw [h, if_neg ne01, if_neg ne01, e_X4_write_J35, if_pos rfl, gr_0_5, bd_s, lr_s hs, bd_s, c_put hs (show j < 40 by omega) hC, fh_cb_s, gr_44_19, bd_s, bd_s, ld_53 hs, bd_s, r_cutTo, fh_cb_s, at_55, st_55 (by omega), bd_s, hR.2.2.2.2.2.2.1]
        exact ⟨_, fs A 55 (40 * s + j) (ct8 c (A 53 s)), (hA.mono (by omega)).num, ⟨_, rfl, hC.num hs (by omega), fun k hk => fs_o (by omega)⟩, ⟨_, rfl, hR.num, fun k hk => fs_o (by omega)⟩⟩
