/-! ===== text: what is taken ===== -/
def xfl_ (b : fh_Rw) (q : Nat) (w : Bool) : Int32 := if w = true then nI (xtb_ b q) else -1
theorem xfl_t {b : fh_Rw} {q : Nat} : xfl_ b q true = nI (xtb_ b q) := rfl
theorem xfl_f {b : fh_Rw} {q : Nat} : xfl_ b q false = -1 := rfl
def KC (σ : fh_S) (B : fh_Rw) (l q : Nat) (w : Bool) : Prop := TC σ B l ∧ TKc (σ 33) (xbt_ B l) q ∧ σ 33 5 = xfl_ (xbt_ B l) q w
def nx_ (r : Bool) (b : fh_Rw) (q : Nat) : Nat := if r = true then xte_ b q else q
theorem nx_le {B : fh_Rw} {l q : Nat} {r : Bool} (hB : hB_ B l) (hq : q ≤ l) : nx_ r (xbt_ B l) q ≤ l ∧ q ≤ nx_ r (xbt_ B l) q := by
  have h1 := xtb_le (B := B) hB.1 hq
  have h2 := xte_le hB hq
  unfold nx_
  split
  · omega
  · omega
theorem nm1 {x : Nat} (h : x < 1000) : ¬ nI x = -1 := by
  intro e
  have := nI_pos (show x < 2 ^ 31 by omega)
  rw [e] at this
  exact this (by decide)
theorem c_findK {B : fh_Rw} {l q : Nat} {σ : fh_S} (hB : hB_ B l) (hq : q ≤ l) (h : KC σ B l q false) : ∃ σ', f_X1_findToken 33 σ = some ((), σ') ∧ KC σ' B l (xte_ (xbt_ B l) q) false ∧ ∀ a, a ≠ 33 → σ' a = σ a := by
  obtain ⟨σ', e1, a1, a2, a3⟩ := c_find hB.1 h.1 (xte_le hB hq).2.1 h.2.1.2.2.1
  exact ⟨σ', e1, ⟨h.1.mv (a3 31 (by omega)) (a3 32 (by omega)), a1, by rw [a2, h.2.2]; rfl⟩, a3⟩
theorem c_word {B : fh_Rw} {l i q : Nat} {w : Bool} {σ : fh_S} (hB : hB_ B l) (hi : i < 26) (hq : q ≤ l) (h : KC σ B l q w) : ∃ σ', f_X1_takeWord 33 i σ = some (bi_ (!w && ww_ (xbt_ B l) i q), σ') ∧ KC σ' B l (nx_ (!w && ww_ (xbt_ B l) i q) (xbt_ B l) q) w ∧ ∀ a, a ≠ 33 → σ' a = σ a := by
  have h1 := xtb_le (B := B) hB.1 hq
  have hl := hB.1
  unfold f_X1_takeWord
  rw [ob_R, gi_33_5, bd_s, h.2.2]
  cases w with
  | true =>
    rw [xfl_t, if_neg (nm1 (by omega))]
    exact ⟨σ, rfl, h, fun _ _ => rfl⟩
  | false =>
    rw [xfl_f, if_pos rfl, c_isWord hB hi h.1 hq h.2.1, fh_cb_s]
    cases hw : ww_ (xbt_ B l) i q with
    | true =>
      obtain ⟨σ', e1, k1, a1⟩ := c_findK hB hq h
      rw [show bi_ true = 1 from rfl, if_neg ne01, e1, fh_cb_s]
      exact ⟨σ', rfl, k1, a1⟩
    | false =>
      rw [show bi_ false = 0 from rfl, if_pos rfl]
      exact ⟨σ, rfl, h, fun _ _ => rfl⟩
theorem c_refuse {B : fh_Rw} {l q : Nat} {w : Bool} {σ : fh_S} (hB : hB_ B l) (hq : q ≤ l) (h : KC σ B l q w) : ∃ σ', f_X1_refuse 33 σ = some ((), σ') ∧ KC σ' B l q true ∧ ∀ a, a ≠ 33 → σ' a = σ a := by
  have h1 := xtb_le (B := B) hB.1 hq
  have hl := hB.1
  unfold f_X1_refuse
  rw [ob_R, gi_33_5, bd_s, h.2.2]
  cases w with
  | true =>
    rw [xfl_t, if_neg (nm1 (by omega))]
    exact ⟨σ, rfl, h, fun _ _ => rfl⟩
  | false =>
    rw [xfl_f, if_pos rfl, gi_33_2, bd_s, pf_33_5, bd_s, h.2.1.2.1]
    refine ⟨_, rfl, ⟨h.1.mv (fs_o (by omega)) (fs_o (by omega)), ?_, fs_s⟩, fun a ha => fs_o ha⟩
    unfold TKc
    rw [fs_ne (by omega), fs_ne (by omega), fs_ne (by omega), fs_ne (by omega)]
    exact h.2.1
def nk_ (b : fh_Rw) (h : Int32) (q : Nat) : Bool := decide (xts_ b q = 2 ∧ xtv_ b q ≤ h)
def nv_ (b : fh_Rw) (h : Int32) (q : Nat) (w : Bool) : Int32 := if (!w && nk_ b h q) = true then xtv_ b q else 0
theorem c_num {B : fh_Rw} {l q : Nat} {hi : Int32} {w : Bool} {σ : fh_S} (hB : hB_ B l) (hq : q ≤ l) (h : KC σ B l q w) : ∃ σ', f_X1_takeNumber 33 hi σ = some (nv_ (xbt_ B l) hi q w, σ') ∧ KC σ' B l (nx_ (!w && nk_ (xbt_ B l) hi q) (xbt_ B l) q) (w || !nk_ (xbt_ B l) hi q) ∧ ∀ a, a ≠ 33 → σ' a = σ a := by
  have h1 := xtb_le (B := B) hB.1 hq
  have hl := hB.1
  obtain ⟨σr, er, kr, ar⟩ := c_refuse hB hq h
  have no : f_X1_takeNumber_J24 33 σ = some (0, σr) := by
    rw [e_X1_takeNumber_J24, er, fh_cb_s]
  unfold f_X1_takeNumber
  rw [ob_R, gi_33_5, bd_s, jn_s, h.2.2]
  cases w with
  | true =>
    rw [xfl_t, if_neg (nm1 (by omega)), no]
    exact ⟨σr, rfl, kr, ar⟩
  | false =>
    rw [xfl_f, if_pos rfl, gi_33_1, bd_s, h.2.1.1]
    by_cases q1 : xts_ (xbt_ B l) q = 2
    · rw [if_pos (show nI (xts_ (xbt_ B l) q) = 2 by rw [q1]; rfl), gi_33_4, bd_s, h.2.1.2.2.2 q1]
      by_cases q2 : xtv_ (xbt_ B l) q ≤ hi
      · have e : nk_ (xbt_ B l) hi q = true := by unfold nk_; exact decide_eq_true ⟨q1, q2⟩
        obtain ⟨σ', e1, k1, a1⟩ := c_findK hB hq h
        rw [if_pos q2, bd_s, e1, fh_cb_s]
        unfold nv_
        rw [e]
        exact ⟨σ', rfl, k1, a1⟩
      · have e : nk_ (xbt_ B l) hi q = false := by unfold nk_; exact decide_eq_false (fun h => q2 h.2)
        rw [if_neg q2, no]
        unfold nv_
        rw [e]
        exact ⟨σr, rfl, kr, ar⟩
    · have e : nk_ (xbt_ B l) hi q = false := by unfold nk_; exact decide_eq_false (fun h => q1 h.1)
      rw [if_neg (show ¬ nI (xts_ (xbt_ B l) q) = 2 from fun h => q1 ((nI_eq (b := 2) (by have := xts_lt (b := xbt_ B l) (q := q); omega) (by omega)).mp h)), no]
      unfold nv_
      rw [e]
      exact ⟨σr, rfl, kr, ar⟩
def sg_ (b : fh_Rw) (c : Int32) (q : Nat) : Bool := decide (xts_ b q = 3 ∧ b (xtb_ b q) = c)
theorem c_sign {B : fh_Rw} {l q : Nat} {c : Int32} {w : Bool} {σ : fh_S} (hB : hB_ B l) (hq : q ≤ l) (h : KC σ B l q w) : ∃ σ', f_X1_takeSign 33 c σ = some (bi_ (!w && sg_ (xbt_ B l) c q), σ') ∧ KC σ' B l (nx_ (!w && sg_ (xbt_ B l) c q) (xbt_ B l) q) w ∧ ∀ a, a ≠ 33 → σ' a = σ a := by
  have h1 := xtb_le (B := B) hB.1 hq
  have hl := hB.1
  unfold f_X1_takeSign
  rw [ob_R, gi_33_5, bd_s, h.2.2]
  cases w with
  | true =>
    rw [xfl_t, if_neg (nm1 (by omega))]
    exact ⟨σ, rfl, h, fun _ _ => rfl⟩
  | false =>
    rw [xfl_f, if_pos rfl, gi_33_1, bd_s, h.2.1.1]
    by_cases q1 : xts_ (xbt_ B l) q = 3
    · rw [if_pos (show nI (xts_ (xbt_ B l) q) = 3 by rw [q1]; rfl), gr_33_0, bd_s, gi_33_2, bd_s, h.2.1.2.1, c_byte hl h.1 (by omega), fh_cb_s]
      by_cases q2 : xbt_ B l (xtb_ (xbt_ B l) q) = c
      · have e : sg_ (xbt_ B l) c q = true := by unfold sg_; exact decide_eq_true ⟨q1, q2⟩
        obtain ⟨σ', e1, k1, a1⟩ := c_findK hB hq h
        rw [if_pos q2, e1, fh_cb_s, e]
        exact ⟨σ', rfl, k1, a1⟩
      · have e : sg_ (xbt_ B l) c q = false := by unfold sg_; exact decide_eq_false (fun h => q2 h.2)
        rw [if_neg q2, e]
        exact ⟨σ, rfl, h, fun _ _ => rfl⟩
    · have e : sg_ (xbt_ B l) c q = false := by unfold sg_; exact decide_eq_false (fun h => q1 h.1)
      rw [if_neg (show ¬ nI (xts_ (xbt_ B l) q) = 3 from fun h => q1 ((nI_eq (b := 3) (by have := xts_lt (b := xbt_ B l) (q := q); omega) (by omega)).mp h)), e]
      exact ⟨σ, rfl, h, fun _ _ => rfl⟩
/-! the reference -/
def KR (σ : fh_S) (B : fh_Rw) (l q : Nat) (w : Bool) : Prop := TR σ B l ∧ TK (σ 44) (xbt_ B l) q ∧ σ 44 12 = bi_ w
/-- what a reader's step leaves alone -/
def Fr (σ σ' : fh_S) : Prop := (∀ j, j < 8 ∨ 12 < j → σ' 44 j = σ 44 j) ∧ ∀ a, a ≠ 44 → σ' a = σ a
theorem Fr.refl {σ : fh_S} : Fr σ σ := ⟨fun _ _ => rfl, fun _ _ => rfl⟩
theorem Fr.trans {a b c : fh_S} (h1 : Fr a b) (h2 : Fr b c) : Fr a c := ⟨fun j hj => by rw [h2.1 j hj, h1.1 j hj], fun k hk => by rw [h2.2 k hk, h1.2 k hk]⟩
theorem r_must {B : fh_Rw} {l q : Nat} {w r : Bool} {σ : fh_S} (hB : hB_ B l) (hq : q ≤ l) (h : KR σ B l q w) : ∃ σ', f_X5_must 44 (bi_ r) σ = some ((), σ') ∧ KR σ' B l (nx_ (!w && r) (xbt_ B l) q) (w || !r) ∧ Fr σ σ' := by
  have hl := hB.1
  have tk : ∀ v, TK (fs σ 44 12 v 44) (xbt_ B l) q := by
    intro v
    unfold TK
    rw [fs_ne (by omega), fs_ne (by omega), fs_ne (by omega), fs_ne (by omega)]
    exact h.2.1
  have tr : ∀ v, TR (fs σ 44 12 v) B l := fun v => h.1.mv (fs_ne (by omega)) (fs_o (by omega))
  have fr : ∀ v, Fr σ (fs σ 44 12 v) := fun v => ⟨fun j hj => fs_ne (by omega), fun a ha => fs_o ha⟩
  have bad : ∃ σ', f_X5_must_J17 44 1 σ = some ((), σ') ∧ KR σ' B l q true ∧ Fr σ σ' := by
    rw [e_X5_must_J17]
    unfold fh_pz
    rw [if_pos (Or.inr rfl), pf_44_12, bd_s, gi_44_12, bd_s, fs_s, if_neg ne01]
    exact ⟨_, rfl, ⟨tr _, tk _, fs_s⟩, fr _⟩
  have good : ∃ σ', f_X5_must_J17 44 0 σ = some ((), σ') ∧ KR σ' B l (xte_ (xbt_ B l) q) false ∧ Fr σ σ' := by
    rw [e_X5_must_J17]
    unfold fh_pz
    rw [if_pos (Or.inl rfl), pf_44_12, bd_s, gi_44_12, bd_s, fs_s, if_pos rfl]
    obtain ⟨σ', e1, t1, j1, a1⟩ := r_next hl (tr 0) (xte_le hB hq).2.1 (tk 0).2.2.1
    rw [e1, fh_cb_s]
    refine ⟨σ', rfl, ⟨(tr 0).mv (j1 7 (by omega)) (a1 50 (by omega)), t1, by rw [j1 12 (by omega), fs_s]; rfl⟩, (fr 0).trans ⟨fun j hj => j1 j (by omega), a1⟩⟩
  unfold f_X5_must
  rw [ob_M, gi_44_12, bd_s, jn_s, jn_s, h.2.2, e_X5_must_J12]
  cases w with
  | true =>
    rw [show bi_ true = 1 from rfl, if_neg ne01]
    exact bad
  | false =>
    rw [show bi_ false = 0 from rfl, if_pos rfl]
    cases r with
    | true =>
      rw [show bi_ true = 1 from rfl, if_neg ne01]
      exact good
    | false =>
      rw [show bi_ false = 0 from rfl, if_pos rfl]
      exact bad
theorem wb_0 {y : Nat} {hi : Int32} (hy : y ≤ 1000) : wb (nI y) 0 hi = bi_ (decide (nI y ≤ hi)) := by
  unfold wb bi_
  rw [if_neg (nI_pos (by omega))]
  by_cases h : nI y ≤ hi
  · rw [if_neg (Int32.not_lt.mpr h), if_pos (decide_eq_true h)]
  · rw [if_pos (Int32.not_le.mp h), if_neg (by rw [decide_eq_true_eq]; exact h)]
theorem r_num {B : fh_Rw} {l q : Nat} {hi : Int32} {w : Bool} {σ : fh_S} (hB : hB_ B l) (hq : q ≤ l) (h : KR σ B l q w) : ∃ (v : Int32) (σ' : fh_S), f_X5_number 44 0 hi σ = some (v, σ') ∧ ((w || !nk_ (xbt_ B l) hi q) = false → v = nv_ (xbt_ B l) hi q w) ∧ KR σ' B l (nx_ (!w && nk_ (xbt_ B l) hi q) (xbt_ B l) q) (w || !nk_ (xbt_ B l) hi q) ∧ Fr σ σ' := by
  have hl := hB.1
  have step : ∀ r : Bool, r = nk_ (xbt_ B l) hi q → ∃ σ', f_X5_number_J28 44 (σ 44 11) (bi_ r) σ = some (σ 44 11, σ') ∧ KR σ' B l (nx_ (!w && nk_ (xbt_ B l) hi q) (xbt_ B l) q) (w || !nk_ (xbt_ B l) hi q) ∧ Fr σ σ' := by
    intro r er
    obtain ⟨σ', e1, k1, f1⟩ := r_must (r := r) hB hq h
    rw [e_X5_number_J28, e1, fh_cb_s]
    rw [er] at k1
    exact ⟨σ', rfl, k1, f1⟩
  have val : (w || !nk_ (xbt_ B l) hi q) = false → σ 44 11 = nv_ (xbt_ B l) hi q w := by
    intro e
    rw [Bool.or_eq_false_iff, Bool.not_eq_false'] at e
    unfold nv_
    rw [e.1, e.2, if_pos (show (!false && true) = true from rfl)]
    have := e.2
    unfold nk_ at this
    exact h.2.1.2.2.2 (decide_eq_true_eq.mp this).1
  refine ⟨σ 44 11, ?_⟩
  unfold f_X5_number
  rw [ob_M, gi_44_11, bd_s, gi_44_10, bd_s, jn_s, jn_s, h.2.1.1]
  by_cases q1 : xts_ (xbt_ B l) q = 2
  · obtain ⟨y, hy, ey⟩ := xtv_ok hB hq
    have ev : σ 44 11 = nI y := by rw [h.2.1.2.2.2 q1, ey]
    rw [if_pos (show nI (xts_ (xbt_ B l) q) = 2 by rw [q1]; rfl), r_within, fh_cb_s]
    have ew : wb (σ 44 11) 0 hi = bi_ (nk_ (xbt_ B l) hi q) := by
      rw [ev, wb_0 hy]
      unfold nk_
      rw [ey]
      congr 1
      exact decide_eq_decide.mpr ⟨fun h => ⟨q1, h⟩, fun h => h.2⟩
    rw [ew]
    cases hn : nk_ (xbt_ B l) hi q with
    | true =>
      obtain ⟨σ', e1, k1, f1⟩ := step true hn.symm
      rw [hn] at k1 val
      rw [show bi_ true = 1 from rfl, if_neg ne01]
      exact ⟨σ', e1, val, k1, f1⟩
    | false =>
      obtain ⟨σ', e1, k1, f1⟩ := step false hn.symm
      rw [hn] at k1 val
      rw [show bi_ false = 0 from rfl, if_pos rfl, e_X5_number_J27]
      exact ⟨σ', e1, val, k1, f1⟩
  · have hn : nk_ (xbt_ B l) hi q = false := by unfold nk_; exact decide_eq_false (fun h => q1 h.1)
    obtain ⟨σ', e1, k1, f1⟩ := step false hn.symm
    rw [if_neg (show ¬ nI (xts_ (xbt_ B l) q) = 2 from fun h => q1 ((nI_eq (b := 2) (by have := xts_lt (b := xbt_ B l) (q := q); omega) (by omega)).mp h)), e_X5_number_J27]
    exact ⟨σ', e1, val, k1, f1⟩
theorem r_word {B : fh_Rw} {l i q : Nat} {w : Bool} {σ : fh_S} (hB : hB_ B l) (hi : i < 13) (hq : q ≤ l) (h : KR σ B l q w) : ∃ σ', f_X5_isNext 44 (13 + i) σ = some (bi_ (!w && ww_ (xbt_ B l) i q), σ') ∧ KR σ' B l (nx_ (!w && ww_ (xbt_ B l) i q) (xbt_ B l) q) w ∧ Fr σ σ' := by
  have hl := hB.1
  have no : f_X5_isNext_J19 (f_X5_isNext_J20 44) σ = some (0, σ) := by
    rw [e_X5_isNext_J19, e_X5_isNext_J20, if_pos rfl]
    rfl
  unfold f_X5_isNext
  rw [ob_M, gi_44_12, bd_s, jn_s, jn_s, h.2.2, no]
  cases w with
  | true =>
    rw [show bi_ true = 1 from rfl, if_neg ne01]
    exact ⟨σ, rfl, h, Fr.refl⟩
  | false =>
    rw [show bi_ false = 0 from rfl, if_pos rfl, r_isWord hB (by omega) h.1 hq h.2.1, fh_cb_s, ww_s hi]
    cases hw : ww_ (xbt_ B l) i q with
    | true =>
      obtain ⟨σ', e1, k1, f1⟩ := r_must (r := true) hB hq h
      rw [show bi_ true = 1 from rfl] at e1 ⊢
      rw [if_neg ne01, e_X5_isNext_J20, if_neg ne01, e1, fh_cb_s]
      exact ⟨σ', rfl, k1, f1⟩
    | false =>
      rw [show bi_ false = 0 from rfl, if_pos rfl, no]
      exact ⟨σ, rfl, h, Fr.refl⟩
theorem r_goes {B : fh_Rw} {l q q1 : Nat} {w s n : Bool} {σ : fh_S} (hB : hB_ B l) (hq : q ≤ l) (h : KR σ B l q w) (hs : s = (!w && sg_ (xbt_ B l) 45 q)) (h1 : q1 = nx_ s (xbt_ B l) q) (hn : n = nk_ (xbt_ B l) 99 q1) :
    ∃ (v : Int32) (σ' : fh_S), f_X5_goesTold 44 σ = some (v, σ') ∧ ((w || !n) = false → v = if s = true then -nv_ (xbt_ B l) 99 q1 w else nv_ (xbt_ B l) 99 q1 w) ∧ KR σ' B l (nx_ (!w && n) (xbt_ B l) q1) (w || !n) ∧ Fr σ σ' := by
  have hl := hB.1
  have hq1 : q1 ≤ l := by rw [h1]; exact (nx_le hB hq).1
  have h0 := xtb_le (B := B) hl hq
  have he := xte_le hB hq
  have fin : ∀ σ0 : fh_S, KR σ0 B l q1 w → Fr σ σ0 → ∃ (v : Int32) (σ' : fh_S), f_X5_goesTold_J44 44 (bi_ s) σ0 = some (v, σ') ∧ ((w || !n) = false → v = if s = true then -nv_ (xbt_ B l) 99 q1 w else nv_ (xbt_ B l) 99 q1 w) ∧ KR σ' B l (nx_ (!w && n) (xbt_ B l) q1) (w || !n) ∧ Fr σ σ' := by
    intro σ0 k0 f0
    obtain ⟨v, σ', e1, v1, k1, f1⟩ := r_num (hi := 99) hB hq1 k0
    rw [← hn] at v1 k1
    rw [e_X5_goesTold_J44, e1, fh_cb_s]
    cases s with
    | true =>
      rw [show bi_ true = 1 from rfl, if_neg ne01]
      exact ⟨-v, σ', rfl, fun e => by rw [if_pos rfl, v1 e], k1, f0.trans f1⟩
    | false =>
      rw [show bi_ false = 0 from rfl, if_pos rfl]
      exact ⟨v, σ', rfl, fun e => by rw [if_neg (by decide), v1 e], k1, f0.trans f1⟩
  have no : s = false → ∃ (v : Int32) (σ' : fh_S), f_X5_goesTold_J33 (f_X5_goesTold_J34 44) σ = some (v, σ') ∧ ((w || !n) = false → v = if s = true then -nv_ (xbt_ B l) 99 q1 w else nv_ (xbt_ B l) 99 q1 w) ∧ KR σ' B l (nx_ (!w && n) (xbt_ B l) q1) (w || !n) ∧ Fr σ σ' := by
    intro es
    have eq : q1 = q := by rw [h1, es]; rfl
    rw [e_X5_goesTold_J33, e_X5_goesTold_J34, jn_s, if_pos rfl]
    have := fin σ (by rw [eq]; exact h) Fr.refl
    rw [es, show bi_ false = 0 from rfl] at this
    rw [es]
    exact this
  unfold f_X5_goesTold
  rw [ob_M, gi_44_12, bd_s, jn_s, jn_s, h.2.2]
  cases w with
  | true =>
    rw [show bi_ true = 1 from rfl, if_neg ne01]
    exact no hs
  | false =>
    rw [show bi_ false = 0 from rfl, if_pos rfl, gi_44_10, bd_s, h.2.1.1]
    by_cases w1 : xts_ (xbt_ B l) q = 3
    · have := he.2.2 (by omega)
      rw [if_pos (show nI (xts_ (xbt_ B l) q) = 3 by rw [w1]; rfl), gr_44_6, bd_s, gi_44_8, bd_s, h.2.1.2.1, ld_50 (by omega), bd_s, h.1.2 _ (by omega), ← xbt_in (B := B) (show xtb_ (xbt_ B l) q < l by omega)]
      by_cases w2 : xbt_ B l (xtb_ (xbt_ B l) q) = 45
      · have es : s = true := by rw [hs]; unfold sg_; rw [decide_eq_true ⟨w1, w2⟩]; rfl
        obtain ⟨σ', e1, k1, f1⟩ := r_must (r := true) hB hq h
        rw [show bi_ true = 1 from rfl] at e1
        rw [if_pos w2, e_X5_goesTold_J34, jn_s, if_neg ne01, e1, fh_cb_s]
        have := fin σ' (by rw [h1, es]; exact k1) f1
        rw [es, show bi_ true = 1 from rfl] at this
        rw [es]
        exact this
      · have es : s = false := by rw [hs]; unfold sg_; rw [decide_eq_false (fun h => w2 h.2)]; rfl
        rw [if_neg w2]
        exact no es
    · have es : s = false := by rw [hs]; unfold sg_; rw [decide_eq_false (fun h => w1 h.1)]; rfl
      rw [if_neg (show ¬ nI (xts_ (xbt_ B l) q) = 3 from fun h => w1 ((nI_eq (b := 3) (by have := xts_lt (b := xbt_ B l) (q := q); omega) (by omega)).mp h))]
      exact no es
