/-! ===== text: a dial's item, the reference ===== -/
theorem at_52 (m j : Nat) : (6 : Int32) * nI m + nI j = nI (6 * m + j) := by
  rw [show (6 : Int32) = nI 6 from rfl, pk_mul, nI_add]
def Rw6 (c : fh_Rw) (m : Nat) (a0 a1 a2 a3 a4 a5 : Int32) : Prop := c (6 * m) = a0 ∧ c (6 * m + 1) = a1 ∧ c (6 * m + 2) = a2 ∧ c (6 * m + 3) = a3 ∧ c (6 * m + 4) = a4 ∧ c (6 * m + 5) = a5
theorem r_item {m : Nat} {σ : fh_S} {a0 a1 a2 a3 a4 a5 : Int32} (hm : m < 120) (h15 : σ 44 15 = nI m) : ∃ σ', f_X5_item 44 a0 a1 a2 a3 a4 a5 σ = some ((), σ') ∧ Rw6 (σ' 52) m a0 a1 a2 a3 a4 a5 ∧ (∀ j, j < 6 * m → σ' 52 j = σ 52 j) ∧ σ' 44 15 = nI (m + 1) ∧ (∀ j, j ≠ 15 → σ' 44 j = σ 44 j) ∧ ∀ a, a ≠ 44 → a ≠ 52 → σ' a = σ a := by
  have e0 : (6 : Int32) * nI m = nI (6 * m) := by rw [show (6 : Int32) = nI 6 from rfl, pk_mul]
  unfold f_X5_item
  rw [ob_M, gi_44_15, bd_s, h15]
  simp only [gr_44_14, bd_s]
  rw [show (6 : Int32) * nI m + 1 = nI (6 * m + 1) from at_52 m 1, show (6 : Int32) * nI m + 2 = nI (6 * m + 2) from at_52 m 2, show (6 : Int32) * nI m + 3 = nI (6 * m + 3) from at_52 m 3, show (6 : Int32) * nI m + 4 = nI (6 * m + 4) from at_52 m 4, show (6 : Int32) * nI m + 5 = nI (6 * m + 5) from at_52 m 5, e0]
  rw [st_52 (by omega), bd_s, st_52 (by omega), bd_s, st_52 (by omega), bd_s, st_52 (by omega), bd_s, st_52 (by omega), bd_s, st_52 (by omega), bd_s, gi_44_15, bd_s, pf_44_15, bd_s]
  refine ⟨_, rfl, ?_, fun j hj => ?_, ?_, fun j hj => ?_, fun a h1 h2 => ?_⟩
  · unfold Rw6
    simp only [fs_o (show 52 ≠ 44 by omega)]
    refine ⟨?_, ?_, ?_, ?_, ?_, ?_⟩
    · rw [fs_ne (by omega), fs_ne (by omega), fs_ne (by omega), fs_ne (by omega), fs_ne (by omega), fs_s]
    · rw [fs_ne (by omega), fs_ne (by omega), fs_ne (by omega), fs_ne (by omega), fs_s]
    · rw [fs_ne (by omega), fs_ne (by omega), fs_ne (by omega), fs_s]
    · rw [fs_ne (by omega), fs_ne (by omega), fs_s]
    · rw [fs_ne (by omega), fs_s]
    · rw [fs_s]
  · rw [fs_o (show 52 ≠ 44 by omega), fs_ne (by omega), fs_ne (by omega), fs_ne (by omega), fs_ne (by omega), fs_ne (by omega), fs_ne (by omega)]
  · rw [fs_s, fs_o (show 44 ≠ 52 by omega), fs_o (show 44 ≠ 52 by omega), fs_o (show 44 ≠ 52 by omega), fs_o (show 44 ≠ 52 by omega), fs_o (show 44 ≠ 52 by omega), fs_o (show 44 ≠ 52 by omega), h15, nI_1]
  · rw [fs_ne hj, fs_o (show 44 ≠ 52 by omega), fs_o (show 44 ≠ 52 by omega), fs_o (show 44 ≠ 52 by omega), fs_o (show 44 ≠ 52 by omega), fs_o (show 44 ≠ 52 by omega), fs_o (show 44 ≠ 52 by omega)]
  · rw [fs_o h1, fs_o h2, fs_o h2, fs_o h2, fs_o h2, fs_o h2, fs_o h2]
theorem r_opt {B : fh_Rw} {l i q : Nat} {h d : Int32} {w : Bool} {σ : fh_S} {j : Int32 → fh_S → Option (Unit × fh_S)} {E : fh_S → Option (Unit × fh_S)} (hB : hB_ B l) (hi : i < 13) (hq : q ≤ l) (hK : KR σ B l q w)
    (hE : ∀ σ1, Fr σ σ1 → E σ1 = fh_cb (f_X5_number 44 0 h σ1) fun r s => j r s) :
    ∃ (v : Int32) (σ' : fh_S), (fh_cb (f_X5_isNext 44 (13 + i) σ) fun r s => if r = 0 then j d s else E s) = j v σ' ∧ (xow_ (xbt_ B l) i h q w = false → v = xov_ (xbt_ B l) i h q w d) ∧ KR σ' B l (xoq_ (xbt_ B l) i h q w) (xow_ (xbt_ B l) i h q w) ∧ Fr σ σ' := by
  obtain ⟨σ1, e1, k1, f1⟩ := r_word hB hi hq hK
  rw [e1, fh_cb_s]
  unfold xoq_ xow_ xov_
  cases r : (!w && ww_ (xbt_ B l) i q) with
  | false =>
    rw [r] at k1
    rw [show bi_ false = 0 from rfl, if_pos rfl, if_neg (by decide), if_neg (by decide), if_neg (by decide)]
    exact ⟨d, σ1, rfl, fun _ => rfl, k1, f1⟩
  | true =>
    have ew : w = false := by
      cases w with
      | false => rfl
      | true => cases r
    subst ew
    rw [r] at k1
    have k1' : KR σ1 B l (xte_ (xbt_ B l) q) false := k1
    obtain ⟨v, σ2, e2, v2, k2, f2⟩ := r_num (hi := h) hB (xte_le hB hq).2.1 k1'
    rw [Bool.not_false, Bool.true_and, Bool.false_or] at k2
    rw [Bool.false_or] at v2
    rw [show bi_ true = 1 from rfl, if_neg ne01, if_pos rfl, if_pos rfl, if_pos rfl, hE σ1 f1, e2, fh_cb_s]
    exact ⟨v, σ2, rfl, v2, k2, f1.trans f2⟩
theorem r_gopt {B : fh_Rw} {l q : Nat} {w : Bool} {σ : fh_S} {j : Int32 → fh_S → Option (Unit × fh_S)} (hB : hB_ B l) (hq : q ≤ l) (hK : KR σ B l q w) :
    ∃ (v : Int32) (σ' : fh_S), (fh_cb (f_X5_isNext 44 23 σ) fun r s => if r = 0 then j 1 s else fh_cb (f_X5_goesTold 44 s) fun r s => j r s) = j v σ' ∧ (gw_ (xbt_ B l) q w = false → v = gv_ (xbt_ B l) q w 1) ∧ KR σ' B l (gq_ (xbt_ B l) q w) (gw_ (xbt_ B l) q w) ∧ Fr σ σ' := by
  obtain ⟨σ1, e1, k1, f1⟩ := r_word hB (show 10 < 13 by omega) hq hK
  rw [show (23 : Nat) = 13 + 10 from rfl, e1, fh_cb_s]
  unfold gq_ gw_ gv_
  cases r : (!w && ww_ (xbt_ B l) 10 q) with
  | false =>
    rw [r] at k1
    rw [show bi_ false = 0 from rfl, if_pos rfl, if_neg (by decide), if_neg (by decide), if_neg (by decide)]
    exact ⟨1, σ1, rfl, fun _ => rfl, k1, f1⟩
  | true =>
    have ew : w = false := by
      cases w with
      | false => rfl
      | true => cases r
    subst ew
    rw [r] at k1
    have k1' : KR σ1 B l (xte_ (xbt_ B l) q) false := k1
    obtain ⟨v, σ2, e2, v2, k2, f2⟩ := r_goes (s := sg_ (xbt_ B l) 45 (xte_ (xbt_ B l) q)) hB (xte_le hB hq).2.1 k1' (by rw [Bool.not_false, Bool.true_and]) rfl rfl
    rw [Bool.not_false, Bool.true_and, Bool.false_or] at k2
    rw [Bool.false_or] at v2
    rw [show bi_ true = 1 from rfl, if_neg ne01, if_pos rfl, if_pos rfl, if_pos rfl, e2, fh_cb_s]
    exact ⟨v, σ2, rfl, v2, k2, f1.trans f2⟩
/-- from behind the kind's word on, also where something was wrong -/
theorem r_tail {B : fh_Rw} {l q1 n m : Nat} {w1 : Bool} {kd : Int32} {σ : fh_S} {Q2 Q3 Q4 Q5 : Nat} {W2 W3 W4 W5 Z : Bool} (hB : hB_ B l) (hq : q1 ≤ l) (hK : KR σ B l q1 w1) (h16 : σ 44 16 = nI (n + 1)) (h15 : σ 44 15 = nI m) (hm : m < 120)
    (hQ2 : Q2 = xoq_ (xbt_ B l) 8 719 q1 w1) (hW2 : W2 = xow_ (xbt_ B l) 8 719 q1 w1) (hQ3 : Q3 = xoq_ (xbt_ B l) 9 (nI n) Q2 W2) (hW3 : W3 = xow_ (xbt_ B l) 9 (nI n) Q2 W2) (hQ4 : Q4 = gq_ (xbt_ B l) Q3 W3) (hW4 : W4 = gw_ (xbt_ B l) Q3 W3) (hQ5 : Q5 = xoq_ (xbt_ B l) 11 9 Q4 W4) (hW5 : W5 = xow_ (xbt_ B l) 11 9 Q4 W4) (hZ : Z = (!W5 && ww_ (xbt_ B l) 12 Q5)) :
    ∃ σ', (fh_cb (f_X5_isNext 44 21 σ) fun r22 σ21 => if r22 = 0 then f_X5_readItem_J59 44 kd 0 σ21 else fh_cb (f_X5_number 44 0 719 σ21) fun r58 σ57 => f_X5_readItem_J59 44 kd r58 σ57) = some ((), σ') ∧ KR σ' B l (nx_ Z (xbt_ B l) Q5) W5 ∧ σ' 44 15 = nI (m + 1) ∧ (∀ j, j < 8 ∨ (12 < j ∧ j ≠ 15) → σ' 44 j = σ 44 j) ∧ (∀ j, j < 6 * m → σ' 52 j = σ 52 j) ∧ (∀ a, a ≠ 44 → a ≠ 52 → σ' a = σ a) ∧
      (W5 = false → Rw6 (σ' 52) m kd (xov_ (xbt_ B l) 8 719 q1 w1 0) (xov_ (xbt_ B l) 9 (nI n) Q2 W2 (-1)) (if Z = true then 0 else gv_ (xbt_ B l) Q3 W3 1) (if Z = true then 1 else 0) (xov_ (xbt_ B l) 11 9 Q4 W4 0)) := by
  have l2 : Q2 ≤ l := by rw [hQ2]; exact (xoq_le hB hq).1
  have l3 : Q3 ≤ l := by rw [hQ3]; exact (xoq_le hB l2).1
  have l4 : Q4 ≤ l := by rw [hQ4]; exact (gq_le hB l3).1
  have l5 : Q5 ≤ l := by rw [hQ5]; exact (xoq_le hB l4).1
  obtain ⟨v1, σ1, e1, v1', k1, f1⟩ := r_opt (i := 8) (h := 719) (d := 0) (j := f_X5_readItem_J59 44 kd) (E := fun s => fh_cb (f_X5_number 44 0 719 s) fun r s => f_X5_readItem_J59 44 kd r s) hB (by omega) hq hK (fun _ _ => rfl)
  rw [← hQ2, ← hW2] at k1
  rw [← hW2] at v1'
  rw [show (21 : Nat) = 13 + 8 from rfl, e1, e_X5_readItem_J59]
  simp only [jn_s]
  obtain ⟨v2, σ2, e2, v2', k2, f2⟩ := r_opt (i := 9) (h := nI n) (d := -1) (j := f_X5_readItem_J85 44 kd v1) (E := fun σ25 => (fh_gi σ25 5 44 16).bind fun v53 => fh_cb (f_X5_number 44 0 (v53 - 1) σ25) fun r55 σ54 => f_X5_readItem_J85 44 kd v1 r55 σ54) hB (by omega) l2 k1 (fun s hs => by rw [gi_44_16, bd_s, hs.1 16 (by omega), f1.1 16 (by omega), h16, nI_pred])
  rw [← hQ3, ← hW3] at k2
  rw [← hW3] at v2'
  rw [show (22 : Nat) = 13 + 9 from rfl, e2, e_X5_readItem_J85]
  simp only [jn_s]
  obtain ⟨v3, σ3, e3, v3', k3, f3⟩ := r_gopt (j := f_X5_readItem_J104 44 kd v1 v2) hB l3 k2
  rw [← hQ4, ← hW4] at k3
  rw [← hW4] at v3'
  rw [e3, e_X5_readItem_J104]
  simp only [jn_s]
  obtain ⟨v4, σ4, e4, v4', k4, f4⟩ := r_opt (i := 11) (h := 9) (d := 0) (j := f_X5_readItem_J127 44 kd v1 v2 v3) (E := fun s => fh_cb (f_X5_number 44 0 9 s) fun r s => f_X5_readItem_J127 44 kd v1 v2 v3 r s) hB (by omega) l4 k3 (fun _ _ => rfl)
  rw [← hQ5, ← hW5] at k4
  rw [← hW5] at v4'
  rw [show (24 : Nat) = 13 + 11 from rfl, e4, e_X5_readItem_J127]
  simp only [jn_s]
  obtain ⟨σ5, e5, k5, f5⟩ := r_word hB (show 12 < 13 by omega) l5 k4
  rw [← hZ] at k5 e5
  rw [show (25 : Nat) = 13 + 12 from rfl, e5, fh_cb_s]
  have f15 : Fr σ σ5 := f1.trans (f2.trans (f3.trans (f4.trans f5)))
  have fin : ∀ x39 x41 : Int32, ∃ σ', f_X5_readItem_J163 44 kd v1 v2 x39 v4 x41 σ5 = some ((), σ') ∧ KR σ' B l (nx_ Z (xbt_ B l) Q5) W5 ∧ σ' 44 15 = nI (m + 1) ∧ (∀ j, j < 8 ∨ (12 < j ∧ j ≠ 15) → σ' 44 j = σ 44 j) ∧ (∀ j, j < 6 * m → σ' 52 j = σ 52 j) ∧ (∀ a, a ≠ 44 → a ≠ 52 → σ' a = σ a) ∧ Rw6 (σ' 52) m kd v1 v2 x39 x41 v4 := by
    intro x39 x41
    obtain ⟨σ6, e6, r6, b6, c6, d6, g6⟩ := r_item (σ := σ5) (a0 := kd) (a1 := v1) (a2 := v2) (a3 := x39) (a4 := x41) (a5 := v4) hm (by rw [f15.1 15 (by omega), h15])
    rw [e_X5_readItem_J163, e6, fh_cb_s]
    refine ⟨σ6, rfl, ⟨k5.1.mv (d6 7 (by omega)) (g6 50 (by omega) (by omega)), ?_, by rw [d6 12 (by omega)]; exact k5.2.2⟩, c6, fun j hj => by rw [d6 j (by omega), f15.1 j (by omega)], fun j hj => by rw [b6 j hj, f15.2 52 (by omega)], fun a h1 h2 => by rw [g6 a h1 h2, f15.2 a h1], r6⟩
    unfold TK
    rw [d6 10 (by omega), d6 8 (by omega), d6 9 (by omega), d6 11 (by omega)]
    exact k5.2.1
  have mono : W5 = false → W2 = false ∧ W3 = false ∧ W4 = false := by
    intro e
    have h4 : W4 = false := xow_m (by rw [← hW5]; exact e)
    have h3 : W3 = false := gw_m (by rw [← hW4]; exact h4)
    exact ⟨xow_m (by rw [← hW3]; exact h3), h3, h4⟩
  cases Z with
  | false =>
    rw [show bi_ false = 0 from rfl, if_pos rfl, e_X5_readItem_J153, jn_s, if_pos rfl]
    obtain ⟨σ', a1, a2, a3, a4, a5, a6, a7⟩ := fin v3 0
    refine ⟨σ', a1, a2, a3, a4, a5, a6, fun e => ?_⟩
    obtain ⟨m2, m3, m4⟩ := mono e
    rw [v1' m2, v2' m3, v3' m4, v4' e] at a7
    rw [if_neg (by decide), if_neg (by decide)]
    exact a7
  | true =>
    rw [show bi_ true = 1 from rfl, if_neg ne01, e_X5_readItem_J153, jn_s, if_neg ne01]
    obtain ⟨σ', a1, a2, a3, a4, a5, a6, a7⟩ := fin 0 1
    refine ⟨σ', a1, a2, a3, a4, a5, a6, fun e => ?_⟩
    obtain ⟨m2, m3, m4⟩ := mono e
    rw [v1' m2, v2' m3, v4' e] at a7
    rw [if_pos rfl, if_pos rfl]
    exact a7
