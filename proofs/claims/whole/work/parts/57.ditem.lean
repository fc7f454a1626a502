/-! ===== text: a dial's item, the class ===== -/
def xow_ (b : fh_Rw) (i : Nat) (h : Int32) (q : Nat) (w : Bool) : Bool := if (!w && ww_ b i q) = true then !nk_ b h (xte_ b q) else w
def xoq_ (b : fh_Rw) (i : Nat) (h : Int32) (q : Nat) (w : Bool) : Nat := if (!w && ww_ b i q) = true then nx_ (nk_ b h (xte_ b q)) b (xte_ b q) else q
def xov_ (b : fh_Rw) (i : Nat) (h : Int32) (q : Nat) (w : Bool) (d : Int32) : Int32 := if (!w && ww_ b i q) = true then nv_ b h (xte_ b q) false else d
theorem xow_m {b : fh_Rw} {i q : Nat} {h : Int32} {w : Bool} (e : xow_ b i h q w = false) : w = false := by
  cases w with
  | false => rfl
  | true => exact e
theorem xoq_le {B : fh_Rw} {l i q : Nat} {h : Int32} {w : Bool} (hB : hB_ B l) (hq : q ≤ l) : xoq_ (xbt_ B l) i h q w ≤ l ∧ q ≤ xoq_ (xbt_ B l) i h q w := by
  have h1 := xtb_le (B := B) hB.1 hq
  have h2 := xte_le hB hq
  unfold xoq_
  split
  · have := nx_le (r := nk_ (xbt_ B l) h (xte_ (xbt_ B l) q)) hB h2.2.1
    omega
  · omega
theorem GR.tr {σ σ' : fh_S} {ρ : fh_Rw} (h : GR 21 σ ρ) (hk : ∀ a, a ≠ 33 → σ' a = σ a) : GR 21 σ' ρ := h.mv (fun k _ _ => hk k (by omega))
theorem KC.mv {σ σ' : fh_S} {B : fh_Rw} {l q : Nat} {w : Bool} (h : KC σ B l q w) (h1 : σ' 31 = σ 31) (h2 : σ' 32 = σ 32) (h3 : σ' 33 = σ 33) : KC σ' B l q w := by
  unfold KC
  rw [h3]
  exact ⟨h.1.mv h1 h2, h.2⟩
/-- a word and its number, laid into field f of dial d -/
theorem c_opt {B : fh_Rw} {l i q d f : Nat} {h : Int32} {w : Bool} {σ : fh_S} {ρ : fh_Rw} {j E : fh_S → Option (Unit × fh_S)} (hB : hB_ B l) (hi : i < 26) (hq : q ≤ l) (hf : f < 6) (hd : d < 10) (hK : KC σ B l q w) (hG : GR 21 σ ρ)
    (hE : ∀ σ1, GR 21 σ1 ρ → E σ1 = fh_cb (f_X1_takeNumber 33 h σ1) fun r s => (fh_st s (21 + 1 + f) (nI d) r).bind fun s' => j s') :
    ∃ σ', (fh_cb (f_X1_takeWord 33 i σ) fun r s => if r = 0 then j s else E s) = j σ' ∧ KC σ' B l (xoq_ (xbt_ B l) i h q w) (xow_ (xbt_ B l) i h q w) ∧ GR 21 σ' (upd ρ (13 + 6 * d + f) (xov_ (xbt_ B l) i h q w (ρ (13 + 6 * d + f)))) ∧ ∀ a, a ≠ 33 → ¬ (21 ≤ a ∧ a < 31) → σ' a = σ a := by
  obtain ⟨σ1, e1, k1, a1⟩ := c_word hB hi hq hK
  rw [e1, fh_cb_s]
  unfold xoq_ xow_ xov_
  cases r : (!w && ww_ (xbt_ B l) i q) with
  | false =>
    rw [r] at k1
    rw [show bi_ false = 0 from rfl, if_pos rfl, if_neg (by decide), if_neg (by decide), if_neg (by decide), upd_id rfl]
    exact ⟨σ1, rfl, k1, hG.tr a1, fun a h1 _ => a1 a h1⟩
  | true =>
    have ew : w = false := by
      cases w with
      | false => rfl
      | true => cases r
    subst ew
    rw [r] at k1
    obtain ⟨σ2, e2, k2, a2⟩ := c_num (hi := h) hB (xte_le hB hq).2.1 k1
    have g2 : GR 21 σ2 ρ := (hG.tr a1).tr a2
    have ar : fh_arr (21 + 1 + f) = some 10 := by
      rcases (show f = 0 ∨ f = 1 ∨ f = 2 ∨ f = 3 ∨ f = 4 ∨ f = 5 by omega) with rfl | rfl | rfl | rfl | rfl | rfl <;> rfl
    rw [show bi_ true = 1 from rfl, if_neg ne01, if_pos rfl, if_pos rfl, if_pos rfl, hE σ1 (hG.tr a1)]
    rw [show xte_ (xbt_ B l) q = nx_ true (xbt_ B l) q from rfl, e2, fh_cb_s, st_ok ar hd (by omega), bd_s]
    refine ⟨_, rfl, k2.mv (fs_o (by omega)) (fs_o (by omega)) (fs_o (by omega)), g2.st hf hd _, fun a h1 h2 => ?_⟩
    rw [fs_o (by omega), a2 a h1, a1 a h1]
def gw_ (b : fh_Rw) (q : Nat) (w : Bool) : Bool := if (!w && ww_ b 10 q) = true then !nk_ b 99 (nx_ (sg_ b 45 (xte_ b q)) b (xte_ b q)) else w
def gq_ (b : fh_Rw) (q : Nat) (w : Bool) : Nat := if (!w && ww_ b 10 q) = true then nx_ (nk_ b 99 (nx_ (sg_ b 45 (xte_ b q)) b (xte_ b q))) b (nx_ (sg_ b 45 (xte_ b q)) b (xte_ b q)) else q
def gv_ (b : fh_Rw) (q : Nat) (w : Bool) (d : Int32) : Int32 := if (!w && ww_ b 10 q) = true then (if sg_ b 45 (xte_ b q) = true then -nv_ b 99 (nx_ (sg_ b 45 (xte_ b q)) b (xte_ b q)) false else nv_ b 99 (nx_ (sg_ b 45 (xte_ b q)) b (xte_ b q)) false) else d
theorem gw_m {b : fh_Rw} {q : Nat} {w : Bool} (e : gw_ b q w = false) : w = false := by
  cases w with
  | false => rfl
  | true => exact e
theorem gq_le {B : fh_Rw} {l q : Nat} {w : Bool} (hB : hB_ B l) (hq : q ≤ l) : gq_ (xbt_ B l) q w ≤ l ∧ q ≤ gq_ (xbt_ B l) q w := by
  have h1 := xtb_le (B := B) hB.1 hq
  have h2 := xte_le hB hq
  unfold gq_
  split
  · have h3 := nx_le (r := sg_ (xbt_ B l) 45 (xte_ (xbt_ B l) q)) hB h2.2.1
    have h4 := nx_le (r := nk_ (xbt_ B l) 99 (nx_ (sg_ (xbt_ B l) 45 (xte_ (xbt_ B l) q)) (xbt_ B l) (xte_ (xbt_ B l) q))) hB h3.1
    omega
  · omega
theorem c_goes {B : fh_Rw} {l q d : Nat} {w : Bool} {σ : fh_S} {ρ : fh_Rw} {j : fh_S → Option (Unit × fh_S)} (hB : hB_ B l) (hq : q ≤ l) (hd : d < 10) (hK : KC σ B l q w) (hG : GR 21 σ ρ) :
    ∃ σ', (fh_cb (f_X1_takeWord 33 10 σ) fun r s => if r = 0 then j s else fh_cb (f_X1_takeSign 33 45 s) fun r37 s36 => if r37 = 0 then f_X1_readDial_J101 21 33 (nI d) j 1 s36 else f_X1_readDial_J101 21 33 (nI d) j (-1) s36) = j σ' ∧ KC σ' B l (gq_ (xbt_ B l) q w) (gw_ (xbt_ B l) q w) ∧ GR 21 σ' (upd ρ (13 + 6 * d + 3) (gv_ (xbt_ B l) q w (ρ (13 + 6 * d + 3)))) ∧ ∀ a, a ≠ 33 → ¬ (21 ≤ a ∧ a < 31) → σ' a = σ a := by
  obtain ⟨σ1, e1, k1, a1⟩ := c_word hB (show 10 < 26 by omega) hq hK
  rw [e1, fh_cb_s]
  unfold gq_ gw_ gv_
  cases r : (!w && ww_ (xbt_ B l) 10 q) with
  | false =>
    rw [r] at k1
    rw [show bi_ false = 0 from rfl, if_pos rfl, if_neg (by decide), if_neg (by decide), if_neg (by decide), upd_id rfl]
    exact ⟨σ1, rfl, k1, hG.tr a1, fun a h1 _ => a1 a h1⟩
  | true =>
    have ew : w = false := by
      cases w with
      | false => rfl
      | true => cases r
    subst ew
    rw [r] at k1
    have k1' : KC σ1 B l (xte_ (xbt_ B l) q) false := k1
    obtain ⟨σ2, e2, k2, a2⟩ := c_sign (c := 45) hB (xte_le hB hq).2.1 k1'
    rw [Bool.not_false, Bool.true_and] at e2 k2
    have hq2 := (nx_le (r := sg_ (xbt_ B l) 45 (xte_ (xbt_ B l) q)) hB (xte_le hB hq).2.1).1
    obtain ⟨σ3, e3, k3, a3⟩ := c_num (hi := 99) hB hq2 k2
    rw [Bool.not_false, Bool.true_and, Bool.false_or] at k3
    have g3 : GR 21 σ3 ρ := ((hG.tr a1).tr a2).tr a3
    have fin : ∀ x : Int32, ∃ σ', f_X1_readDial_J101 21 33 (nI d) j x σ2 = j σ' ∧ KC σ' B l (nx_ (nk_ (xbt_ B l) 99 (nx_ (sg_ (xbt_ B l) 45 (xte_ (xbt_ B l) q)) (xbt_ B l) (xte_ (xbt_ B l) q))) (xbt_ B l) (nx_ (sg_ (xbt_ B l) 45 (xte_ (xbt_ B l) q)) (xbt_ B l) (xte_ (xbt_ B l) q))) (!nk_ (xbt_ B l) 99 (nx_ (sg_ (xbt_ B l) 45 (xte_ (xbt_ B l) q)) (xbt_ B l) (xte_ (xbt_ B l) q))) ∧ GR 21 σ' (upd ρ (13 + 6 * d + 3) (x * nv_ (xbt_ B l) 99 (nx_ (sg_ (xbt_ B l) 45 (xte_ (xbt_ B l) q)) (xbt_ B l) (xte_ (xbt_ B l) q)) false)) ∧ ∀ a, a ≠ 33 → ¬ (21 ≤ a ∧ a < 31) → σ' a = σ a := by
      intro x
      rw [e_X1_readDial_J101, gr_G3 fhG21, bd_s, e3, fh_cb_s, st_G4 fhG21 hd, bd_s]
      refine ⟨_, rfl, k3.mv (fs_o (by omega)) (fs_o (by omega)) (fs_o (by omega)), g3.st (f := 3) (by omega) hd _, fun a h1 h2 => ?_⟩
      rw [fs_o (by omega), a3 a h1, a2 a h1, a1 a h1]
    rw [show bi_ true = 1 from rfl, if_neg ne01, e2, fh_cb_s, if_pos rfl, if_pos rfl, if_pos rfl]
    cases s : sg_ (xbt_ B l) 45 (xte_ (xbt_ B l) q) with
    | true =>
      have := fin (-1)
      rw [s] at this
      rw [show bi_ true = 1 from rfl, if_neg ne01, if_pos rfl]
      rw [Int32.neg_mul, Int32.one_mul] at this
      exact this
    | false =>
      have := fin 1
      rw [s] at this
      rw [show bi_ false = 0 from rfl, if_pos rfl, if_neg (by decide)]
      rw [Int32.one_mul] at this
      exact this
theorem cm_f {ρ : fh_Rw} {n : Nat} {k h m g s ms : Int32} : cm_ ρ n k h m g s ms (13 + 6 * n + 1) = h ∧ cm_ ρ n k h m g s ms (13 + 6 * n + 2) = m ∧ cm_ ρ n k h m g s ms (13 + 6 * n + 3) = g ∧ cm_ ρ n k h m g s ms (13 + 6 * n + 4) = s ∧ cm_ ρ n k h m g s ms (13 + 6 * n + 5) = ms := by
  unfold cm_
  refine ⟨?_, ?_, ?_, ?_, ?_⟩ <;> simp [upd]
theorem cm_u1 {ρ : fh_Rw} {n : Nat} {k h m g s ms v : Int32} : upd (cm_ ρ n k h m g s ms) (13 + 6 * n + 1) v = cm_ ρ n k v m g s ms := by
  funext j
  by_cases e : j = 13 + 6 * n + 1
  · subst e; rw [pk_us, cm_f.1]
  · rw [pk_un e]; unfold cm_ upd; simp only [if_neg e]
theorem cm_u2 {ρ : fh_Rw} {n : Nat} {k h m g s ms v : Int32} : upd (cm_ ρ n k h m g s ms) (13 + 6 * n + 2) v = cm_ ρ n k h v g s ms := by
  funext j
  by_cases e : j = 13 + 6 * n + 2
  · subst e; rw [pk_us, cm_f.2.1]
  · rw [pk_un e]; unfold cm_ upd; simp only [if_neg e]
theorem cm_u3 {ρ : fh_Rw} {n : Nat} {k h m g s ms v : Int32} : upd (cm_ ρ n k h m g s ms) (13 + 6 * n + 3) v = cm_ ρ n k h m v s ms := by
  funext j
  by_cases e : j = 13 + 6 * n + 3
  · subst e; rw [pk_us, cm_f.2.2.1]
  · rw [pk_un e]; unfold cm_ upd; simp only [if_neg e]
theorem cm_u4 {ρ : fh_Rw} {n : Nat} {k h m g s ms v : Int32} : upd (cm_ ρ n k h m g s ms) (13 + 6 * n + 4) v = cm_ ρ n k h m g v ms := by
  funext j
  by_cases e : j = 13 + 6 * n + 4
  · subst e; rw [pk_us, cm_f.2.2.2.1]
  · rw [pk_un e]; unfold cm_ upd; simp only [if_neg e]
theorem cm_u5 {ρ : fh_Rw} {n : Nat} {k h m g s ms v : Int32} : upd (cm_ ρ n k h m g s ms) (13 + 6 * n + 5) v = cm_ ρ n k h m g s v := by
  funext j
  by_cases e : j = 13 + 6 * n + 5
  · subst e; rw [pk_us, cm_f.2.2.2.2]
  · rw [pk_un e]; unfold cm_ upd; simp only [if_neg e]
/-! the places behind each of a dial's words -/
def q2_ (b : fh_Rw) (q : Nat) : Nat := xoq_ b 8 719 (xte_ b q) false
def w2_ (b : fh_Rw) (q : Nat) : Bool := xow_ b 8 719 (xte_ b q) false
def q3_ (b : fh_Rw) (n q : Nat) : Nat := xoq_ b 9 (nI n) (q2_ b q) (w2_ b q)
def w3_ (b : fh_Rw) (n q : Nat) : Bool := xow_ b 9 (nI n) (q2_ b q) (w2_ b q)
def q4_ (b : fh_Rw) (n q : Nat) : Nat := gq_ b (q3_ b n q) (w3_ b n q)
def w4_ (b : fh_Rw) (n q : Nat) : Bool := gw_ b (q3_ b n q) (w3_ b n q)
def q5_ (b : fh_Rw) (n q : Nat) : Nat := xoq_ b 11 9 (q4_ b n q) (w4_ b n q)
def w5_ (b : fh_Rw) (n q : Nat) : Bool := xow_ b 11 9 (q4_ b n q) (w4_ b n q)
def xdz_ (b : fh_Rw) (n q : Nat) : Bool := !w5_ b n q && ww_ b 12 (q5_ b n q)
def q6_ (b : fh_Rw) (n q : Nat) : Nat := nx_ (xdz_ b n q) b (q5_ b n q)
def dA_ (b : fh_Rw) (q : Nat) : Int32 := xov_ b 8 719 (xte_ b q) false 0
def dM_ (b : fh_Rw) (n q : Nat) (d : Int32) : Int32 := xov_ b 9 (nI n) (q2_ b q) (w2_ b q) d
def dG_ (b : fh_Rw) (n q : Nat) : Int32 := gv_ b (q3_ b n q) (w3_ b n q) 1
def dS_ (b : fh_Rw) (n q : Nat) : Int32 := xov_ b 11 9 (q4_ b n q) (w4_ b n q) 0
theorem q_le {B : fh_Rw} {l n q : Nat} (hB : hB_ B l) (hq : q ≤ l) : q2_ (xbt_ B l) q ≤ l ∧ q3_ (xbt_ B l) n q ≤ l ∧ q4_ (xbt_ B l) n q ≤ l ∧ q5_ (xbt_ B l) n q ≤ l ∧ q6_ (xbt_ B l) n q ≤ l ∧ xte_ (xbt_ B l) q ≤ q6_ (xbt_ B l) n q := by
  have h1 := xte_le hB hq
  have h2 := xoq_le (i := 8) (h := 719) (w := false) hB h1.2.1
  have h3 := xoq_le (i := 9) (h := nI n) (w := w2_ (xbt_ B l) q) hB h2.1
  have h4 := gq_le (w := w3_ (xbt_ B l) n q) hB h3.1
  have h5 := xoq_le (i := 11) (h := 9) (w := w4_ (xbt_ B l) n q) hB h4.1
  have h6 := nx_le (r := xdz_ (xbt_ B l) n q) hB h5.1
  refine ⟨h2.1, h3.1, h4.1, h5.1, h6.1, ?_⟩
  exact Nat.le_trans h2.2 (Nat.le_trans h3.2 (Nat.le_trans h4.2 (Nat.le_trans h5.2 h6.2)))
theorem c_dialItem {B : fh_Rw} {l q n T k : Nat} {σ : fh_S} {ρ : fh_Rw} (hB : hB_ B l) (hq : q ≤ l) (hk : k < 7) (hn : n < 10) (hkw : kw_ (xbt_ B l) q 7 0 = nI k) (hK : KC σ B l q false) (hG : GR 21 σ ρ) (hI : RI ρ n T) :
    ∃ σ', f_X1_readDial 33 21 σ = some ((), σ') ∧ KC σ' B l (q6_ (xbt_ B l) n q) (w5_ (xbt_ B l) n q) ∧ GR 21 σ' (cm_ ρ n (nI k) (dA_ (xbt_ B l) q) (dM_ (xbt_ B l) n q (nI n)) (if xdz_ (xbt_ B l) n q = true then 0 else dG_ (xbt_ B l) n q) (if xdz_ (xbt_ B l) n q = true then 1 else 0) (dS_ (xbt_ B l) n q)) ∧ ∀ a, a ≠ 33 → ¬ (21 ≤ a ∧ a < 31) → σ' a = σ a := by
  obtain ⟨l2, l3, l4, l5, l6, -⟩ := q_le (n := n) hB hq
  obtain ⟨σ1, e1, k1, a1⟩ := c_findK hB hq hK
  obtain ⟨σ2, e2, g2, a2⟩ := c_add (k := nI k) fhG21 (hG.tr a1) hI hn
  have k2 : KC σ2 B l (xte_ (xbt_ B l) q) false := k1.mv (a2 31 (by omega)) (a2 32 (by omega)) (a2 33 (by omega))
  unfold f_X1_readDial
  rw [ob_R, c_kind hB hK.1 hq hK.2.1, fh_cb_s, hkw, jn_s, if_neg (nI_pos (by omega)), c_isFull fhG21 hG hI, fh_cb_s, if_pos hn, if_pos rfl, e1, fh_cb_s, e2, fh_cb_s]
  simp only [jn_s]
  obtain ⟨σ3, e3, k3, g3, a3⟩ := c_opt (h := 719) (f := 1) (j := f_X1_readDial_J53 33 21 (nI n)) (E := fun σ14 => (fh_gr 0 21 1).bind fun k52 => fh_cb (f_X1_takeNumber 33 719 σ14) fun r54 σ53 => (fh_st σ53 k52 (nI n) r54).bind fun σ55 => f_X1_readDial_J53 33 21 (nI n) σ55) hB (show 8 < 26 by omega) (xte_le hB hq).2.1 (by omega) hn k2 g2 (fun σ1 _ => by rw [gr_G1 fhG21, bd_s])
  rw [e3, cm_f.1, cm_u1] at *
  rw [e_X1_readDial_J53]
  simp only [jn_s]
  have sz3 : ∀ s : fh_S, GR 21 s (cm_ ρ n (nI k) (xov_ (xbt_ B l) 8 719 (xte_ (xbt_ B l) q) false 0) (nI n) 1 0 0) → s 21 9 = nI (n + 1) := by
    intro s h
    rw [h.1]
    unfold cm_
    rw [pk_us]
  obtain ⟨σ4, e4, k4, g4, a4⟩ := c_opt (h := nI n) (f := 2) (j := f_X1_readDial_J78 33 21 (nI n)) (E := fun σ17 => (fh_gr 0 21 2).bind fun k46 => (fh_gi σ17 0 21 9).bind fun v47 => fh_cb (f_X1_takeNumber 33 (v47 - 1) σ17) fun r49 σ48 => (fh_st σ48 k46 (nI n) r49).bind fun σ50 => f_X1_readDial_J78 33 21 (nI n) σ50) hB (show 9 < 26 by omega) l2 (by omega) hn k3 g3 (fun σ1 h => by rw [gr_G2 fhG21, bd_s, gi_G9 fhG21, bd_s, sz3 σ1 h, nI_pred])
  rw [e4, cm_f.2.1, cm_u2] at *
  rw [e_X1_readDial_J78]
  simp only [jn_s]
  obtain ⟨σ5, e5, k5, g5, a5⟩ := c_goes (j := f_X1_readDial_J118 33 21 (nI n)) hB l3 hn k4 g4
  rw [e5, cm_f.2.2.1, cm_u3] at *
  rw [e_X1_readDial_J118]
  simp only [jn_s]
  obtain ⟨σ6, e6, k6, g6, a6⟩ := c_opt (h := 9) (f := 5) (j := f_X1_readDial_J139 33 21 (nI n)) (E := fun σ23 => (fh_gr 0 21 5).bind fun k31 => fh_cb (f_X1_takeNumber 33 9 σ23) fun r33 σ32 => (fh_st σ32 k31 (nI n) r33).bind fun σ34 => f_X1_readDial_J139 33 21 (nI n) σ34) hB (show 11 < 26 by omega) l4 (by omega) hn k5 g5 (fun σ1 _ => by rw [gr_G5 fhG21, bd_s])
  rw [e6, cm_f.2.2.2.2, cm_u5] at *
  rw [e_X1_readDial_J139]
  obtain ⟨σ7, e7, k7, a7⟩ := c_word hB (show 12 < 26 by omega) l5 k6
  have fr : ∀ a, a ≠ 33 → ¬ (21 ≤ a ∧ a < 31) → σ7 a = σ a := fun a h1 h2 => by
    rw [a7 a h1, a6 a h1 h2, a5 a h1 h2, a4 a h1 h2, a3 a h1 h2, a2 a (by omega), a1 a h1]
  have zr : (!xow_ (xbt_ B l) 11 9 (gq_ (xbt_ B l) (q3_ (xbt_ B l) n q) (w3_ (xbt_ B l) n q)) (gw_ (xbt_ B l) (q3_ (xbt_ B l) n q) (w3_ (xbt_ B l) n q)) && ww_ (xbt_ B l) 12 (xoq_ (xbt_ B l) 11 9 (gq_ (xbt_ B l) (q3_ (xbt_ B l) n q) (w3_ (xbt_ B l) n q)) (gw_ (xbt_ B l) (q3_ (xbt_ B l) n q) (w3_ (xbt_ B l) n q)))) = xdz_ (xbt_ B l) n q := rfl
  have k7' : KC σ7 B l (nx_ (xdz_ (xbt_ B l) n q) (xbt_ B l) (q5_ (xbt_ B l) n q)) (w5_ (xbt_ B l) n q) := k7
  have e7' : f_X1_takeWord 33 12 σ6 = some (bi_ (xdz_ (xbt_ B l) n q), σ7) := e7
  have g7 : GR 21 σ7 (cm_ ρ n (nI k) (dA_ (xbt_ B l) q) (dM_ (xbt_ B l) n q (nI n)) (dG_ (xbt_ B l) n q) 0 (dS_ (xbt_ B l) n q)) := g6.tr a7
  rw [e7', fh_cb_s]
  unfold q6_
  cases z : xdz_ (xbt_ B l) n q with
  | false =>
    rw [z] at k7'
    rw [show bi_ false = 0 from rfl, if_pos rfl, if_neg (by decide), if_neg (by decide)]
    exact ⟨σ7, rfl, k7', g7, fr⟩
  | true =>
    rw [z] at k7'
    obtain ⟨σ8, e8, g8, a8⟩ := c_freeze fhG21 hn g7
    rw [cm_f.2.2.2.1, if_neg (by decide)] at e8
    unfold sp_ at g8
    rw [cm_f.2.2.2.1, if_neg (by decide), cm_u4, cm_u3] at g8
    rw [show bi_ true = 1 from rfl, if_neg ne01, e8, fh_cb_s, if_pos rfl, if_pos rfl]
    exact ⟨σ8, rfl, k7'.mv (a8 31 (by omega)) (a8 32 (by omega)) (a8 33 (by omega)), g8, fun a h1 h2 => by rw [a8 a (by omega), fr a h1 h2]⟩
