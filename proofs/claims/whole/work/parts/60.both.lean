/-! ===== text: an item, the class against the reference ===== -/
def It (B : fh_Rw) (l q n m T : Nat) (ρ : fh_Rw) (σ τ : fh_S) (J : fh_S → Option (Int32 × fh_S)) : Prop :=
  ∃ (q' : Nat) (w : Bool) (σ' τ' : fh_S), q' ≤ l ∧ q ≤ q' ∧ (fh_cb (f_X1_takeWord 33 7 σ) fun r20 σ19 => if r20 = 0 then fh_cb (f_X1_readDial 33 21 σ19) fun _ s => J s else fh_cb (f_X1_readMaster 33 21 σ19) fun _ s => J s) = J σ' ∧
    KC σ' B l q' w ∧ (∀ a, a ≠ 33 → ¬ (21 ≤ a ∧ a < 31) → σ' a = σ a) ∧ f_X5_readItem 44 τ = some ((), τ') ∧ KR τ' B l q' w ∧ (∀ j, j < 8 ∨ 16 < j → τ' 44 j = τ 44 j) ∧ (∀ j, j < 6 * m → τ' 52 j = τ 52 j) ∧ (∀ a, a ≠ 44 → a ≠ 52 → τ' a = τ a) ∧
    (w = false → q < q' ∧ ∃ (ρ' : fh_Rw) (n' : Nat), GR 21 σ' ρ' ∧ RI ρ' n' T ∧ τ' 44 15 = nI (m + 1) ∧ τ' 44 16 = nI n' ∧ St (τ' 52) m ρ n ρ' n')
theorem KR.it {τ τ' : fh_S} {B : fh_Rw} {l q : Nat} {w : Bool} (h : KR τ B l q w) (h1 : ∀ j, j ≠ 15 → τ' 44 j = τ 44 j) (h2 : τ' 50 = τ 50) : KR τ' B l q w := by
  refine ⟨h.1.mv (h1 7 (by omega)) h2, ?_, by rw [h1 12 (by omega)]; exact h.2.2⟩
  unfold TK
  rw [h1 10 (by omega), h1 8 (by omega), h1 9 (by omega), h1 11 (by omega)]
  exact h.2.1
theorem it_M {B : fh_Rw} {l q n m T : Nat} {ρ : fh_Rw} {σ τ : fh_S} {J : fh_S → Option (Int32 × fh_S)} (hB : hB_ B l) (hq : q ≤ l) (hm : m < 120) (hC : KC σ B l q false) (hG : GR 21 σ ρ) (hI : RI ρ n T) (hR : KR τ B l q false) (h16 : τ 44 16 = nI n) (h15 : τ 44 15 = nI m) (hw : ww_ (xbt_ B l) 7 q = true) : It B l q n m T ρ σ τ J := by
  have hn := hI.1
  have hte := xte_le hB hq
  have htb := xtb_le (B := B) hB.1 hq
  have hts : xts_ (xbt_ B l) q = 1 := by
    unfold ww_ at hw
    by_cases e : xts_ (xbt_ B l) q = 1
    · exact e
    · rw [if_neg e] at hw; cases hw
  have hlt := hte.2.2 (by omega)
  have hkw : kw_ (xbt_ B l) q 7 0 = -1 := by
    rcases kw_or (b := xbt_ B l) (q := q) with ⟨e, -⟩ | ⟨i, hi, -, e⟩
    · exact e
    · have := ww_u (show i < 8 by omega) (show 7 < 8 by omega) e hw
      omega
  obtain ⟨σ1, e1, k1, a1⟩ := c_word hB (show 7 < 26 by omega) hq hC
  rw [hw] at e1 k1
  have k1 : KC σ1 B l (xte_ (xbt_ B l) q) false := k1
  have e1 : f_X1_takeWord 33 7 σ = some (1, σ1) := e1
  obtain ⟨σ2, e2, k2, a2⟩ := c_num (hi := nI n - 1) hB hte.2.1 k1
  rw [Bool.not_false, Bool.true_and, Bool.false_or] at k2
  have hq2 := nx_le (r := nk_ (xbt_ B l) (nI n - 1) (xte_ (xbt_ B l) q)) hB hte.2.1
  obtain ⟨σ3, e3, k3, a3⟩ := c_num (hi := nI n - 1) hB hq2.1 k2
  have hq3 := nx_le (r := (!!nk_ (xbt_ B l) (nI n - 1) (xte_ (xbt_ B l) q)) && nk_ (xbt_ B l) (nI n - 1) (nx_ (nk_ (xbt_ B l) (nI n - 1) (xte_ (xbt_ B l) q)) (xbt_ B l) (xte_ (xbt_ B l) q))) hB hq2.1
  obtain ⟨τ1, f1, j1, g1⟩ := r_must (r := true) hB hq hR
  have j1 : KR τ1 B l (xte_ (xbt_ B l) q) false := j1
  obtain ⟨u2, τ2, f2, v2, j2, g2⟩ := r_num (hi := nI n - 1) hB hte.2.1 j1
  rw [Bool.not_false, Bool.true_and, Bool.false_or] at j2
  rw [Bool.false_or] at v2
  obtain ⟨u3, τ3, f3, v3, j3, g3⟩ := r_num (hi := nI n - 1) hB hq2.1 j2
  have g13 : Fr τ τ3 := g1.trans (g2.trans g3)
  obtain ⟨τ4, f4, r4, b4, c4, d4, x4⟩ := r_item (σ := τ3) (a0 := 10) (a1 := u2) (a2 := u3) (a3 := 0) (a4 := 0) (a5 := 0) hm (by rw [g13.1 15 (by omega), h15])
  have hsz : ∀ s : fh_S, (∀ a, a ≠ 33 → s a = σ a) → s 21 9 = nI n := fun s hs => by rw [hs 21 (by omega), hG.1]; exact hI.2.1
  have hsz1 := hsz σ1 a1
  have hsz2 := hsz σ2 (fun a ha => by rw [a2 a ha, a1 a ha])
  have G3 : GR 21 σ3 ρ := ((hG.tr a1).tr a2).tr a3
  have ref : f_X5_readItem 44 τ = some ((), τ4) := by
    unfold f_X5_readItem
    rw [ob_M, r_kind hB hR.1 hq hR.2.1, fh_cb_s, hkw, if_pos (show (-1 : Int32) < 0 by decide), show (20 : Nat) = 13 + 7 from rfl, r_isWord hB (by omega) hR.1 hq hR.2.1, fh_cb_s, ww_s (by omega), hw, f1, fh_cb_s, gi_44_16, bd_s, g1.1 16 (by omega), h16, f2, fh_cb_s, gi_44_16, bd_s, (g1.trans g2).1 16 (by omega), h16, f3, fh_cb_s, f4, fh_cb_s]
  have j4 := j3.it d4 (x4 50 (by omega) (by omega))
  have cls : ∃ σ', (fh_cb (f_X1_readMaster 33 21 σ1) fun _ s => J s) = J σ' ∧ KC σ' B l (nx_ ((!!nk_ (xbt_ B l) (nI n - 1) (xte_ (xbt_ B l) q)) && nk_ (xbt_ B l) (nI n - 1) (nx_ (nk_ (xbt_ B l) (nI n - 1) (xte_ (xbt_ B l) q)) (xbt_ B l) (xte_ (xbt_ B l) q))) (xbt_ B l) (nx_ (nk_ (xbt_ B l) (nI n - 1) (xte_ (xbt_ B l) q)) (xbt_ B l) (xte_ (xbt_ B l) q))) ((!nk_ (xbt_ B l) (nI n - 1) (xte_ (xbt_ B l) q)) || !nk_ (xbt_ B l) (nI n - 1) (nx_ (nk_ (xbt_ B l) (nI n - 1) (xte_ (xbt_ B l) q)) (xbt_ B l) (xte_ (xbt_ B l) q))) ∧ (∀ a, a ≠ 33 → ¬ (21 ≤ a ∧ a < 31) → σ' a = σ a) ∧
      (((!nk_ (xbt_ B l) (nI n - 1) (xte_ (xbt_ B l) q)) || !nk_ (xbt_ B l) (nI n - 1) (nx_ (nk_ (xbt_ B l) (nI n - 1) (xte_ (xbt_ B l) q)) (xbt_ B l) (xte_ (xbt_ B l) q))) = false → ∃ d e, d < n ∧ e < n ∧ u2 = nI d ∧ u3 = nI e ∧ GR 21 σ' (upd ρ (13 + 6 * d + 2) (nI e))) := by
    unfold f_X1_readMaster
    rw [ob_R, gi_G9 fhG21, bd_s, hsz1, e2, fh_cb_s, gi_G9 fhG21, bd_s, hsz2, e3, fh_cb_s, gi_33_5, bd_s, k3.2.2]
    have ac : ∀ a, a ≠ 33 → σ3 a = σ a := fun a ha => by rw [a3 a ha, a2 a ha, a1 a ha]
    cases hw3 : ((!nk_ (xbt_ B l) (nI n - 1) (xte_ (xbt_ B l) q)) || !nk_ (xbt_ B l) (nI n - 1) (nx_ (nk_ (xbt_ B l) (nI n - 1) (xte_ (xbt_ B l) q)) (xbt_ B l) (xte_ (xbt_ B l) q))) with
    | true =>
      have := xtb_le (B := B) hB.1 hq3.1
      have hl := hB.1
      rw [hw3] at k3
      rw [xfl_t, if_neg (nm1 (by omega)), fh_cb_s]
      exact ⟨σ3, rfl, k3, fun a h1 _ => ac a h1, fun h => by cases h⟩
    | false =>
      rw [hw3] at k3
      obtain ⟨n1, n2⟩ := Bool.or_eq_false_iff.mp hw3
      rw [Bool.not_eq_false'] at n1 n2
      obtain ⟨y1, hy1, z1, t1, -⟩ := nk_ok hB hte.2.1 n1
      obtain ⟨y2, hy2, z2, t2, -⟩ := nk_ok hB hq2.1 n2
      have p1 := nk_lt hy1 (show n ≤ 1000 by omega) z1
      have p2 := nk_lt hy2 (show n ≤ 1000 by omega) z2
      have x1 : nv_ (xbt_ B l) (nI n - 1) (xte_ (xbt_ B l) q) false = nI y1 := by
        unfold nv_
        rw [n1, if_pos (by decide), t1]
      have x2 : nv_ (xbt_ B l) (nI n - 1) (nx_ (nk_ (xbt_ B l) (nI n - 1) (xte_ (xbt_ B l) q)) (xbt_ B l) (xte_ (xbt_ B l) q)) (!nk_ (xbt_ B l) (nI n - 1) (xte_ (xbt_ B l) q)) = nI y2 := by
        unfold nv_
        rw [n2, if_pos (by rw [n1]; decide), t2]
      rw [xfl_f, if_pos rfl, gr_G2 fhG21, bd_s, x1, x2, st_G3 fhG21 (by omega), bd_s, fh_cb_s]
      refine ⟨_, rfl, k3.mv (fs_o (by omega)) (fs_o (by omega)) (fs_o (by omega)), fun a h1 h2 => by rw [fs_o (by omega), ac a h1], fun _ => ⟨y1, y2, p1, p2, ?_, ?_, G3.st (f := 2) (by omega) (by omega) _⟩⟩
      · rw [v2 (by rw [n1]; rfl), x1]
      · rw [v3 hw3, x2]
  obtain ⟨σ', c1, c2, c3, c5⟩ := cls
  refine ⟨_, _, σ', τ4, hq3.1, by omega, ?_, c2, c3, ref, j4, fun j hj => by rw [d4 j (by omega), g13.1 j (by omega)], fun j hj => by rw [b4 j hj, g13.2 52 (by omega)], fun a h1 h2 => by rw [x4 a h1 h2, g13.2 a h1], fun hw3 => ?_⟩
  · rw [e1, fh_cb_s, if_neg ne01]
    exact c1
  · obtain ⟨d, e, hd, he, ed, ee, gg⟩ := c5 hw3
    refine ⟨by omega, _, n, gg, hI.set hd (by omega) (okM he), c4, by rw [d4 16 (by omega), g13.1 16 (by omega), h16], Or.inl ⟨r4.1, rfl, d, e, hd, he, ?_, ?_, rfl⟩⟩
    · rw [r4.2.1, ed]
    · rw [r4.2.2.1, ee]
theorem it_D {B : fh_Rw} {l q n m T : Nat} {ρ : fh_Rw} {σ τ : fh_S} {J : fh_S → Option (Int32 × fh_S)} (hB : hB_ B l) (hq : q ≤ l) (hm : m < 120) (hC : KC σ B l q false) (hG : GR 21 σ ρ) (hI : RI ρ n T) (hR : KR τ B l q false) (h16 : τ 44 16 = nI n) (h15 : τ 44 15 = nI m) (hw : ww_ (xbt_ B l) 7 q = false) : It B l q n m T ρ σ τ J := by
  have hn := hI.1
  have hte := xte_le hB hq
  have htb := xtb_le (B := B) hB.1 hq
  obtain ⟨σ1, e1, k1, a1⟩ := c_word hB (show 7 < 26 by omega) hq hC
  rw [hw] at e1 k1
  have k1 : KC σ1 B l q false := k1
  have e1 : f_X1_takeWord 33 7 σ = some (0, σ1) := e1
  have G1 : GR 21 σ1 ρ := hG.tr a1
  obtain ⟨σr, er, kr, ar⟩ := c_refuse hB hq k1
  rcases kw_or (b := xbt_ B l) (q := q) with ⟨hkw, -⟩ | ⟨k, hk, hkw, hki⟩
  · obtain ⟨τ1, f1, j1, g1⟩ := r_must (r := false) hB hq hR
    have j1 : KR τ1 B l q true := j1
    obtain ⟨u2, τ2, f2, v2, j2, g2⟩ := r_num (hi := nI n - 1) hB hq j1
    have j2 : KR τ2 B l q true := j2
    obtain ⟨u3, τ3, f3, v3, j3, g3⟩ := r_num (hi := nI n - 1) hB hq j2
    have j3 : KR τ3 B l q true := j3
    have g13 : Fr τ τ3 := g1.trans (g2.trans g3)
    obtain ⟨τ4, f4, r4, b4, c4, d4, x4⟩ := r_item (σ := τ3) (a0 := 10) (a1 := u2) (a2 := u3) (a3 := 0) (a4 := 0) (a5 := 0) hm (by rw [g13.1 15 (by omega), h15])
    have ref : f_X5_readItem 44 τ = some ((), τ4) := by
      unfold f_X5_readItem
      rw [ob_M, r_kind hB hR.1 hq hR.2.1, fh_cb_s, hkw, if_pos (show (-1 : Int32) < 0 by decide), show (20 : Nat) = 13 + 7 from rfl, r_isWord hB (by omega) hR.1 hq hR.2.1, fh_cb_s, ww_s (by omega), hw, f1, fh_cb_s, gi_44_16, bd_s, g1.1 16 (by omega), h16, f2, fh_cb_s, gi_44_16, bd_s, (g1.trans g2).1 16 (by omega), h16, f3, fh_cb_s, f4, fh_cb_s]
    refine ⟨q, true, σr, τ4, hq, Nat.le_refl _, ?_, kr, fun a h1 _ => by rw [ar a h1, a1 a h1], ref, j3.it d4 (x4 50 (by omega) (by omega)), fun j hj => by rw [d4 j (by omega), g13.1 j (by omega)], fun j hj => by rw [b4 j hj, g13.2 52 (by omega)], fun a h1 h2 => by rw [x4 a h1 h2, g13.2 a h1], fun h => by cases h⟩
    unfold f_X1_readDial
    rw [e1, fh_cb_s, if_pos rfl, ob_R, c_kind hB k1.1 hq k1.2.1, fh_cb_s, hkw, jn_s, if_pos (show (-1 : Int32) < 0 by decide), e_X1_readDial_J16, er, fh_cb_s, fh_cb_s]
  · have hts : xts_ (xbt_ B l) q = 1 := by
      unfold ww_ at hki
      by_cases e : xts_ (xbt_ B l) q = 1
      · exact e
      · rw [if_neg e] at hki; cases hki
    have hlt := hte.2.2 (by omega)
    obtain ⟨τ4, ref, j4, c4, d4, x4, y4, b4, r4⟩ := r_dIt hB hq hk hn hkw hR h16 h15 hm
    by_cases w : n < 10
    · rw [if_pos w, if_pos w] at j4
      obtain ⟨σ2, e2, k2, g2, a2⟩ := c_dialItem hB hq hk w hkw k1 G1 hI
      have hql := q_le (n := n) hB hq
      refine ⟨_, _, σ2, τ4, hql.2.2.2.2.1, by omega, ?_, k2, fun a h1 h2 => by rw [a2 a h1 h2, a1 a h1], ref, j4, x4, y4, b4, fun e => ?_⟩
      · rw [e1, fh_cb_s, if_pos rfl, e2, fh_cb_s]
      · obtain ⟨hI', hM⟩ := RI.told hB hq hk w hI e
        obtain ⟨r0, r1, r2, r3, r5, r6⟩ := r4 w e
        refine ⟨by omega, _, n + 1, g2, hI', c4, d4, Or.inr ⟨w, rfl, ⟨k, hk, r0⟩, ?_⟩⟩
        rw [r0, r1, r2, r3, r5, r6, ← hM]
    · rw [if_neg w, if_neg w] at j4
      refine ⟨q, true, σr, τ4, hq, Nat.le_refl _, ?_, kr, fun a h1 _ => by rw [ar a h1, a1 a h1], ref, j4, x4, y4, b4, fun h => by cases h⟩
      unfold f_X1_readDial
      rw [e1, fh_cb_s, if_pos rfl, ob_R, c_kind hB k1.1 hq k1.2.1, fh_cb_s, hkw, jn_s, if_neg (nI_pos (by omega)), c_isFull fhG21 G1 hI, fh_cb_s, if_neg w, if_neg ne01, e_X1_readDial_J16, er, fh_cb_s, fh_cb_s]
theorem it_step {B : fh_Rw} {l q n m T : Nat} {ρ : fh_Rw} {σ τ : fh_S} {J : fh_S → Option (Int32 × fh_S)} (hB : hB_ B l) (hq : q ≤ l) (hm : m < 120) (hC : KC σ B l q false) (hG : GR 21 σ ρ) (hI : RI ρ n T) (hR : KR τ B l q false) (h16 : τ 44 16 = nI n) (h15 : τ 44 15 = nI m) : It B l q n m T ρ σ τ J := by
  cases hw : ww_ (xbt_ B l) 7 q with
  | true => exact it_M hB hq hm hC hG hI hR h16 h15 hw
  | false => exact it_D hB hq hm hC hG hI hR h16 h15 hw
