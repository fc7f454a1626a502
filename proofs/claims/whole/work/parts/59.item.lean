/-! ===== text: one item, both ===== -/
def St (c : fh_Rw) (m : Nat) (ρ : fh_Rw) (n : Nat) (ρ' : fh_Rw) (n' : Nat) : Prop :=
  (c (6 * m) = 10 ∧ n' = n ∧ ∃ d e, d < n ∧ e < n ∧ c (6 * m + 1) = nI d ∧ c (6 * m + 2) = nI e ∧ ρ' = upd ρ (13 + 6 * d + 2) (nI e)) ∨
  (n < 10 ∧ n' = n + 1 ∧ (∃ k, k < 7 ∧ c (6 * m) = nI k) ∧ ρ' = cm_ ρ n (c (6 * m)) (c (6 * m + 1)) (if 0 ≤ c (6 * m + 2) then c (6 * m + 2) else nI n) (c (6 * m + 3)) (c (6 * m + 4)) (c (6 * m + 5)))
theorem nk_ok {B : fh_Rw} {l q : Nat} {h : Int32} (hB : hB_ B l) (hq : q ≤ l) (e : nk_ (xbt_ B l) h q = true) : ∃ y, y ≤ 1000 ∧ nI y ≤ h ∧ xtv_ (xbt_ B l) q = nI y ∧ xts_ (xbt_ B l) q = 2 := by
  unfold nk_ at e
  obtain ⟨e1, e2⟩ := decide_eq_true_eq.mp e
  obtain ⟨y, hy, ey⟩ := xtv_ok hB hq
  rw [ey] at e2
  exact ⟨y, hy, e2, ey, e1⟩
theorem nk_lt {y n : Nat} (hy : y ≤ 1000) (hn : n ≤ 1000) (h : nI y ≤ nI n - 1) : y < n := by
  have := Int32.le_iff_toInt_le.mp h
  rw [nI_m1 hn, nI_toInt (by omega)] at this
  omega
theorem xov_ok {B : fh_Rw} {l i h q : Nat} {w : Bool} {d : Int32} (hB : hB_ B l) (hq : q ≤ l) (hh : h ≤ 1000) (e : xow_ (xbt_ B l) i (nI h) q w = false) : ((!w && ww_ (xbt_ B l) i q) = false ∧ xov_ (xbt_ B l) i (nI h) q w d = d) ∨ ((!w && ww_ (xbt_ B l) i q) = true ∧ ∃ y, y ≤ h ∧ xov_ (xbt_ B l) i (nI h) q w d = nI y) := by
  unfold xov_
  unfold xow_ at e
  cases r : (!w && ww_ (xbt_ B l) i q) with
  | false => exact Or.inl ⟨rfl, by rw [if_neg (by decide)]⟩
  | true =>
    rw [r, if_pos rfl, Bool.not_eq_false'] at e
    obtain ⟨y, hy, h1, h2, -⟩ := nk_ok hB (xte_le hB hq).2.1 e
    refine Or.inr ⟨rfl, y, (nI_leI (by omega) (by omega)).mp h1, ?_⟩
    rw [if_pos rfl]
    unfold nv_
    rw [e, if_pos (by decide), h2]
theorem gv_ok {B : fh_Rw} {l q : Nat} {w : Bool} (hB : hB_ B l) (hq : q ≤ l) (e : gw_ (xbt_ B l) q w = false) : -99 ≤ (gv_ (xbt_ B l) q w 1).toInt ∧ (gv_ (xbt_ B l) q w 1).toInt ≤ 99 := by
  unfold gv_
  unfold gw_ at e
  cases r : (!w && ww_ (xbt_ B l) 10 q) with
  | false => rw [if_neg (by decide)]; decide
  | true =>
    rw [r, if_pos rfl, Bool.not_eq_false'] at e
    have hq1 := (nx_le (r := sg_ (xbt_ B l) 45 (xte_ (xbt_ B l) q)) hB (xte_le hB hq).2.1).1
    obtain ⟨y, hy, h1, h2, -⟩ := nk_ok hB hq1 e
    have h3 : y ≤ 99 := (nI_leI (b := 99) (by omega) (by omega)).mp h1
    rw [if_pos rfl]
    unfold nv_
    rw [e, if_pos (show (!false && true) = true from rfl), h2]
    split
    · rw [sm_neg (by rw [nI_toInt (by omega)]; omega), nI_toInt (by omega)]; omega
    · rw [nI_toInt (by omega)]; omega
theorem r_dIt {B : fh_Rw} {l q n m k : Nat} {τ : fh_S} (hB : hB_ B l) (hq : q ≤ l) (hk : k < 7) (hn : n ≤ 10) (hkw : kw_ (xbt_ B l) q 7 0 = nI k) (hK : KR τ B l q false) (h16 : τ 44 16 = nI n) (h15 : τ 44 15 = nI m) (hm : m < 120) :
    ∃ τ', f_X5_readItem 44 τ = some ((), τ') ∧ KR τ' B l (if n < 10 then q6_ (xbt_ B l) n q else q) (if n < 10 then w5_ (xbt_ B l) n q else true) ∧ τ' 44 15 = nI (m + 1) ∧ τ' 44 16 = nI (n + 1) ∧ (∀ j, j < 8 ∨ 16 < j → τ' 44 j = τ 44 j) ∧ (∀ j, j < 6 * m → τ' 52 j = τ 52 j) ∧ (∀ a, a ≠ 44 → a ≠ 52 → τ' a = τ a) ∧
      (n < 10 → w5_ (xbt_ B l) n q = false → Rw6 (τ' 52) m (nI k) (dA_ (xbt_ B l) q) (dM_ (xbt_ B l) n q (-1)) (if xdz_ (xbt_ B l) n q = true then 0 else dG_ (xbt_ B l) n q) (if xdz_ (xbt_ B l) n q = true then 1 else 0) (dS_ (xbt_ B l) n q)) := by
  have step : ∀ r : Bool, ∃ τ1, f_X5_must 44 (bi_ r) τ = some ((), τ1) ∧ KR (fs τ1 44 16 (nI (n + 1))) B l (nx_ r (xbt_ B l) q) (!r) ∧ τ1 44 16 = nI n ∧ τ1 44 15 = nI m ∧ Fr τ τ1 := by
    intro r
    obtain ⟨τ1, e1, k1, f1⟩ := r_must (r := r) hB hq hK
    rw [Bool.not_false, Bool.true_and, Bool.false_or] at k1
    refine ⟨τ1, e1, ⟨k1.1.mv (fs_ne (by omega)) (fs_o (by omega)), ?_, by rw [fs_ne (by omega)]; exact k1.2.2⟩, by rw [f1.1 16 (by omega), h16], by rw [f1.1 15 (by omega), h15], f1⟩
    unfold TK
    rw [fs_ne (by omega), fs_ne (by omega), fs_ne (by omega), fs_ne (by omega)]
    exact k1.2.1
  have go : ∀ r : Bool, ∃ τ1, f_X5_readItem_J24 44 (nI k) (bi_ r) τ = (fh_cb (f_X5_isNext 44 21 (fs τ1 44 16 (nI (n + 1)))) fun r22 σ21 => if r22 = 0 then f_X5_readItem_J59 44 (nI k) 0 σ21 else fh_cb (f_X5_number 44 0 719 σ21) fun r58 σ57 => f_X5_readItem_J59 44 (nI k) r58 σ57) ∧ KR (fs τ1 44 16 (nI (n + 1))) B l (nx_ r (xbt_ B l) q) (!r) ∧ τ1 44 15 = nI m ∧ Fr τ τ1 := by
    intro r
    obtain ⟨τ1, e1, k1, x16, x15, f1⟩ := step r
    refine ⟨τ1, ?_, k1, x15, f1⟩
    rw [e_X5_readItem_J24, e1, fh_cb_s, gi_44_16, bd_s, pf_44_16, bd_s, x16, nI_1]
    rfl
  unfold f_X5_readItem
  rw [ob_M, r_kind hB hK.1 hq hK.2.1, fh_cb_s, hkw, if_neg (nI_pos (by omega)), gi_44_16, bd_s, jn_s, h16]
  by_cases w : n < 10
  · obtain ⟨τ1, e1, k1, x15, f1⟩ := go true
    rw [if_neg (show ¬ (10 : Int32) ≤ nI n from nI_ge (b := 10) w (by omega)), show (1 : Int32) = bi_ true from rfl, e1, if_pos w, if_pos w]
    obtain ⟨τ2, e2, k2, a1, a2, a3, a4, a5⟩ := r_tail (kd := nI k) (n := n) (m := m) hB (xte_le hB hq).2.1 k1 fs_s (by rw [fs_ne (by omega), x15]) hm rfl rfl rfl rfl rfl rfl rfl rfl rfl
    exact ⟨τ2, e2, k2, a1, by rw [a2 16 (by omega), fs_s], fun j hj => by rw [a2 j (by omega), fs_ne (by omega), f1.1 j (by omega)], fun j hj => by rw [a3 j hj, fs_o (by omega), f1.2 52 (by omega)], fun a h1 h2 => by rw [a4 a h1 h2, fs_o h1, f1.2 a h1], fun _ => a5⟩
  · obtain ⟨τ1, e1, k1, x15, f1⟩ := go false
    rw [if_pos (show (10 : Int32) ≤ nI n from nI_le (a := 10) (by omega) (by omega)), show (0 : Int32) = bi_ false from rfl, e1, if_neg w, if_neg w]
    obtain ⟨τ2, e2, k2, a1, a2, a3, a4, a5⟩ := r_tail (kd := nI k) (n := n) (m := m) hB hq k1 fs_s (by rw [fs_ne (by omega), x15]) hm rfl rfl rfl rfl rfl rfl rfl rfl rfl
    exact ⟨τ2, e2, k2, a1, by rw [a2 16 (by omega), fs_s], fun j hj => by rw [a2 j (by omega), fs_ne (by omega), f1.1 j (by omega)], fun j hj => by rw [a3 j hj, fs_o (by omega), f1.2 52 (by omega)], fun a h1 h2 => by rw [a4 a h1 h2, fs_o h1, f1.2 a h1], fun h => absurd h w⟩
/-- a row that another dial comes to, as a text tells it -/
theorem RI.told {B : fh_Rw} {l q n T k : Nat} {ρ : fh_Rw} (hB : hB_ B l) (hq : q ≤ l) (hk : k < 7) (hn : n < 10) (hI : RI ρ n T) (e : w5_ (xbt_ B l) n q = false) :
    RI (cm_ ρ n (nI k) (dA_ (xbt_ B l) q) (dM_ (xbt_ B l) n q (nI n)) (if xdz_ (xbt_ B l) n q = true then 0 else dG_ (xbt_ B l) n q) (if xdz_ (xbt_ B l) n q = true then 1 else 0) (dS_ (xbt_ B l) n q)) (n + 1) T ∧ dM_ (xbt_ B l) n q (nI n) = if 0 ≤ dM_ (xbt_ B l) n q (-1) then dM_ (xbt_ B l) n q (-1) else nI n := by
  obtain ⟨l2, l3, l4, l5, l6, -⟩ := q_le (n := n) hB hq
  have h4 : w4_ (xbt_ B l) n q = false := xow_m e
  have h3 : w3_ (xbt_ B l) n q = false := gw_m h4
  have h2 : w2_ (xbt_ B l) q = false := xow_m h3
  constructor
  · refine hI.comes hn (okK hk) ?_ ?_ ?_ ?_ ?_
    · refine ⟨by simp, fun _ => ?_, by simp, by simp, by simp, by simp⟩
      rcases xov_ok (h := 719) (d := 0) hB (xte_le hB hq).2.1 (by omega) h2 with ⟨-, g⟩ | ⟨-, y, hy, g⟩
      · exact ⟨0, by omega, g⟩
      · exact ⟨y, by omega, g⟩
    · refine ⟨by simp, by simp, fun _ => ?_, by simp, by simp, by simp⟩
      rcases xov_ok (h := n) (d := nI n) hB l2 (by omega) h3 with ⟨-, g⟩ | ⟨-, y, hy, g⟩
      · exact ⟨n, by omega, g⟩
      · exact ⟨y, by omega, g⟩
    · refine ⟨by simp, by simp, by simp, fun _ => ?_, by simp, by simp⟩
      split
      · decide
      · exact gv_ok hB l3 h4
    · refine ⟨by simp, by simp, by simp, by simp, fun _ => ?_, by simp⟩
      split
      · exact Or.inr rfl
      · exact Or.inl rfl
    · refine ⟨by simp, by simp, by simp, by simp, by simp, fun _ => ?_⟩
      rcases xov_ok (h := 9) (d := 0) hB l4 (by omega) e with ⟨-, g⟩ | ⟨-, y, hy, g⟩
      · exact ⟨0, by omega, g⟩
      · exact ⟨y, by omega, g⟩
  · rcases xov_ok (h := n) (d := nI n) hB l2 (by omega) h3 with ⟨r, g⟩ | ⟨r, y, hy, g⟩
    · rcases xov_ok (h := n) (d := -1) hB l2 (by omega) h3 with ⟨-, g'⟩ | ⟨r', -⟩
      · have e1 : dM_ (xbt_ B l) n q (nI n) = nI n := g
        have e2 : dM_ (xbt_ B l) n q (-1) = -1 := g'
        rw [e1, e2, if_neg (by decide)]
      · rw [r] at r'; cases r'
    · have e1 : dM_ (xbt_ B l) n q (nI n) = dM_ (xbt_ B l) n q (-1) := by
        unfold dM_ xov_
        rw [r, if_pos rfl, if_pos rfl]
      have e2 : dM_ (xbt_ B l) n q (nI n) = nI y := g
      rw [← e1, e2, if_pos (nI_pos' (by omega))]
