/-! ===== text: the run over the items ===== -/
theorem St.mv {c c' : fh_Rw} {i n n' : Nat} {ρ ρ' : fh_Rw} (h : St c i ρ n ρ' n') (hc : ∀ j, j < 6 * i + 6 → c' j = c j) : St c' i ρ n ρ' n' := by
  unfold St
  rw [hc (6 * i) (by omega), hc (6 * i + 1) (by omega), hc (6 * i + 2) (by omega), hc (6 * i + 3) (by omega), hc (6 * i + 4) (by omega), hc (6 * i + 5) (by omega)]
  exact h
def Ch (c : fh_Rw) (m T : Nat) (R : Nat → fh_Rw) (ν : Nat → Nat) : Prop := (∀ i, i < m → St c i (R i) (ν i) (R (i + 1)) (ν (i + 1))) ∧ ∀ i, i ≤ m → RI (R i) (ν i) T
theorem r_told {i n n' T : Nat} {ρ' : fh_Rw} {σ : fh_S} (hi : i < 120) (hI : RI (σ 45) n T) (h : St (σ 52) i (σ 45) n ρ' n') : ∃ (v : Int32) (σ' : fh_S), f_X5_isToldSo 44 (6 * nI i) σ = some (v, σ') ∧ 0 ≤ v ∧ σ' 45 = ρ' ∧ ∀ a, a ≠ 45 → σ' a = σ a := by
  have hn := hI.1
  have e0 : (6 : Int32) * nI i = nI (6 * i) := by rw [show (6 : Int32) = nI 6 from rfl, pk_mul]
  unfold f_X5_isToldSo
  simp only [ob_M, gr_44_14, bd_s]
  rw [show (6 : Int32) * nI i + 1 = nI (6 * i + 1) from at_52 i 1, show (6 : Int32) * nI i + 2 = nI (6 * i + 2) from at_52 i 2, show (6 : Int32) * nI i + 3 = nI (6 * i + 3) from at_52 i 3, show (6 : Int32) * nI i + 4 = nI (6 * i + 4) from at_52 i 4, show (6 : Int32) * nI i + 5 = nI (6 * i + 5) from at_52 i 5, e0]
  rw [ld_52 (by omega), bd_s, ld_52 (by omega), bd_s, ld_52 (by omega), bd_s]
  rcases h with ⟨h0, rfl, d, e, hd, he, h1, h2, rfl⟩ | ⟨hn10, rfl, ⟨k, hk, h0⟩, rfl⟩
  · obtain ⟨m, hm, em⟩ := hI.mast hd
    rw [if_pos h0, h1]
    unfold f_X5_at
    rw [fh_cb_s, at_2]
    unfold f_X5_become
    rw [ob_M, gr_44_0, bd_s, ld_45 (by omega), bd_s, bd_s, st_45 (by omega), bd_s, fh_cb_s, h2, em]
    exact ⟨_, _, rfl, nI_pos' (by omega), fs_row, fun a ha => fs_o ha⟩
  · rw [h0, if_neg (by
      rw [show (10 : Int32) = nI 10 from rfl, nI_eq (by omega) (by omega)]
      omega), bd_s, ld_52 (by omega), bd_s, ld_52 (by omega), bd_s, ld_52 (by omega), bd_s]
    obtain ⟨σ', e1, r1, a1⟩ := r_comes (k := nI k) (h := σ 52 (6 * i + 1)) (m := σ 52 (6 * i + 2)) (g := σ 52 (6 * i + 3)) (s := σ 52 (6 * i + 4)) (ms := σ 52 (6 * i + 5)) hI hn10
    rw [e1, fh_cb_s]
    exact ⟨_, σ', rfl, nI_pos' (by omega), r1, a1⟩
theorem r_doneL {M T : Nat} {R : Nat → fh_Rw} {ν : Nat → Nat} {σ0 : fh_S} (hM : M ≤ 120) (h15 : σ0 44 15 = nI M) (hC : Ch (σ0 52) M T R ν) : ∀ (k i : Nat), i + k = M → ∀ fu : Nat, k < fu → ∀ σ : fh_S, σ 45 = R i → (∀ a, a ≠ 45 → σ a = σ0 a) →
    ∃ σ', fh_fx (ρ := Int32 → Int32 → fh_S → Option (Int32 × fh_S)) (fun _ _ _ => none) (f_X5_text_B113 44) fu (nI i) (nI i) σ = some (nI M, σ') ∧ σ' 45 = R M ∧ ∀ a, a ≠ 45 → σ' a = σ0 a := by
  intro k
  induction k with
  | zero =>
    intro i hi fu hfu σ h45 ha
    obtain ⟨f, rfl⟩ : ∃ f, fu = f + 1 := ⟨fu - 1, by omega⟩
    have : i = M := by omega
    subst this
    rw [fx_s, e_X5_text_B113, gi_44_15, bd_s, ha 44 (by omega), h15, if_pos (nI_le (by omega) (by omega))]
    exact ⟨σ, rfl, h45, ha⟩
  | succ k ih =>
    intro i hi fu hfu σ h45 ha
    obtain ⟨f, rfl⟩ : ∃ f, fu = f + 1 := ⟨fu - 1, by omega⟩
    obtain ⟨v, σ', e1, v1, r1, a1⟩ := r_told (i := i) (n := ν i) (n' := ν (i + 1)) (T := T) (ρ' := R (i + 1)) (σ := σ) (by omega) (by rw [h45]; exact hC.2 i (by omega)) (by rw [h45, ha 52 (by omega)]; exact hC.1 i (by omega))
    rw [fx_s, e_X5_text_B113, gi_44_15, bd_s, ha 44 (by omega), h15, if_neg (nI_ge (by omega) (by omega)), e1, fh_cb_s, jn_s, if_pos v1, e_X5_text_J138, nI_1]
    exact ih (i + 1) (by omega) f (by omega) σ' r1 (fun a h => by rw [a1 a h, ha a h])
theorem r_J87 {B : fh_Rw} {l q : Nat} {w r : Bool} {τ : fh_S} (hB : hB_ B l) (hq : q ≤ l) (h : KR τ B l q w) : ∃ τ', f_X5_text_J87 44 (bi_ r) τ = (if (w || !r) = true then some (-1 - nI (xtb_ (xbt_ B l) q), τ') else fh_fx (ρ := Int32 → Int32 → fh_S → Option (Int32 × fh_S)) (fun _ _ _ => none) (f_X5_text_B113 44) fh_fu 0 0 τ') ∧ τ' 44 7 = 0 ∧ (∀ j, j < 7 ∨ 12 < j → τ' 44 j = τ 44 j) ∧ ∀ a, a ≠ 44 → τ' a = τ a := by
  obtain ⟨τ1, e1, k1, f1⟩ := r_must (r := r) hB hq h
  refine ⟨fs τ1 44 7 0, ?_, fs_s, fun j hj => by rw [fs_ne (by omega), f1.1 j (by omega)], fun a ha => by rw [fs_o ha, f1.2 a ha]⟩
  rw [e_X5_text_J87, e1, fh_cb_s, pf_44_7, bd_s, gi_44_12, bd_s, fs_ne (show 12 ≠ 7 by omega), k1.2.2]
  cases z : (w || !r) with
  | false =>
    rw [show bi_ false = 0 from rfl, if_pos rfl, if_neg (by decide)]
  | true =>
    have z2 : (!w && r) = false := by
      cases w <;> cases r <;> simp_all
    rw [show bi_ true = 1 from rfl, if_neg ne01, if_pos rfl, gi_44_8, bd_s, fs_ne (show 8 ≠ 7 by omega), k1.2.1.2.1, z2]
    rfl
theorem c_J63 {B : fh_Rw} {l q : Nat} {w : Bool} {x : Int32} {σ : fh_S} (hB : hB_ B l) (hq : q ≤ l) (h : KC σ B l q w) : ∃ σ', f_X1_readInto_J63 33 x σ = some (if (w || !decide (xts_ (xbt_ B l) q = 0)) = true then -1 - nI (xtb_ (xbt_ B l) q) else x, σ') ∧ ∀ a, a ≠ 33 → σ' a = σ a := by
  have hl := hB.1
  have htb := xtb_le (B := B) hB.1 hq
  have fin : ∀ (w : Bool) (σ1 : fh_S), KC σ1 B l q w → f_X1_readInto_J74 33 x σ1 = some (if w = true then -1 - nI (xtb_ (xbt_ B l) q) else x, σ1) := by
    intro w σ1 k1
    rw [e_X1_readInto_J74, gi_33_5, bd_s, k1.2.2]
    cases w with
    | true => rw [xfl_t, if_neg (nm1 (by omega)), bd_s, if_pos rfl]
    | false => rw [xfl_f, if_pos rfl, if_neg (by decide)]
  rw [e_X1_readInto_J63, gi_33_1, bd_s, jn_s, h.2.1.1]
  by_cases e : xts_ (xbt_ B l) q = 0
  · rw [if_pos (show nI (xts_ (xbt_ B l) q) = 0 by rw [e]; rfl), fin w σ h, decide_eq_true e, Bool.not_true, Bool.or_false]
    exact ⟨σ, rfl, fun _ _ => rfl⟩
  · obtain ⟨σ1, e1, k1, a1⟩ := c_refuse hB hq h
    rw [if_neg (show ¬ nI (xts_ (xbt_ B l) q) = 0 from fun h => e ((nI_eq (b := 0) (by have := xts_lt (b := xbt_ B l) (q := q); omega) (by omega)).mp h)), e1, fh_cb_s, fin true σ1 k1, decide_eq_false e, Bool.not_false, Bool.or_true]
    exact ⟨σ1, rfl, a1⟩
/-- how both end -/
def TE (T : Nat) (σ τ σ' τ' : fh_S) (v : Int32) : Prop := (∀ a, a ≠ 33 → ¬ (21 ≤ a ∧ a < 31) → σ' a = σ a) ∧ τ' 44 7 = 0 ∧ (∀ j, j < 7 → τ' 44 j = τ 44 j) ∧ (∀ a, a ≠ 44 → a ≠ 45 → a ≠ 52 → τ' a = τ a) ∧
  (((∃ p, p < 1000 ∧ v = -1 - nI p) ∧ τ' 45 = τ 45) ∨ ((∃ c, c < 1000 ∧ v = nI c) ∧ ∃ ρ' n', GR 21 σ' ρ' ∧ RI ρ' n' T ∧ τ' 45 = ρ'))
theorem text_L {B : fh_Rw} {l T : Nat} (hB : hB_ B l) : ∀ (K q m n : Nat) (ρ : fh_Rw) (R : Nat → fh_Rw) (ν : Nat → Nat) (σ τ : fh_S), l - q < K → q ≤ l → 2 * m ≤ q → KC σ B l q false → GR 21 σ ρ → RI ρ n T → KR τ B l q false → τ 44 16 = nI n → τ 44 15 = nI m → Ch (τ 52) m T R ν → R m = ρ → ν m = n → R 0 = τ 45 → ∀ fu fu' : Nat, l - q + 1 < fu → l - q < fu' →
    ∃ (v : Int32) (σ' τ' : fh_S), fh_fx (ρ := Int32 → Int32 → fh_S → Option (Int32 × fh_S)) (fun _ _ _ => none) (f_X1_readInto_B18 33 21) fu (nI m) 1 σ = some (v, σ') ∧ (fh_cb (f_X5_readItem 44 τ) fun _ s => fh_fx (ρ := fh_S → Option (Int32 × fh_S)) (fun _ => none) (f_X5_text_B33 44) fu' s) = some (v, τ') ∧ TE T σ τ σ' τ' v := by
  have hl := hB.1
  intro K
  induction K with
  | zero => intro q m n ρ R ν σ τ h; omega
  | succ K ih =>
    intro q m n ρ R ν σ τ hKq hq hm hC hG hI hR h16 h15 hCh hRm hνm hR0 fu fu' hfu hfu'
    obtain ⟨f, rfl⟩ : ∃ f, fu = f + 1 := ⟨fu - 1, by omega⟩
    obtain ⟨f, rfl⟩ : ∃ f', f = f' + 1 := ⟨f - 1, by omega⟩
    obtain ⟨f', rfl⟩ : ∃ f', fu' = f' + 1 := ⟨fu' - 1, by omega⟩
    obtain ⟨q1, w, σ1, τ1, hq1, hqq, ec, kc, ac, er, kr, j44, j52, jo, hw⟩ := it_step (J := f_X1_readInto_J50 33 (fh_fx (ρ := Int32 → Int32 → fh_S → Option (Int32 × fh_S)) (fun _ _ _ => none) (f_X1_readInto_B18 33 21) (f + 1)) (nI m)) hB hq (by omega) hC hG hI hR h16 h15
    rw [fx_s, e_X1_readInto_B18, jn_s, if_neg ne01, if_neg (show ¬ (120 : Int32) < nI m from nI_nlt (a := 120) (by omega) (by omega))]
    simp only [jn_s]
    rw [ec, er, fh_cb_s, e_X1_readInto_J50, nI_1]
    obtain ⟨σ2, e2, k2, a2⟩ := c_sign (c := 59) hB hq1 kc
    have hq2 := nx_le (r := (!w && sg_ (xbt_ B l) 59 q1)) hB hq1
    rw [e2, fh_cb_s, fx_s (b := f_X5_text_B33 44), e_X5_text_B33, gi_44_12, bd_s, jn_s, kr.2.2]
    have htb := xtb_le (B := B) hB.1 hq1
    have hte := xte_le hB hq1
    have f2 : ∀ a, a ≠ 33 → ¬ (21 ≤ a ∧ a < 31) → σ2 a = σ a := fun a h1 h2 => by rw [a2 a h1, ac a h1 h2]
    -- both stop here
    have stop : ∀ r : Bool, (!w && sg_ (xbt_ B l) 59 q1) = false → r = decide (xts_ (xbt_ B l) q1 = 0) → ∃ (v : Int32) (σ' τ' : fh_S), fh_fx (ρ := Int32 → Int32 → fh_S → Option (Int32 × fh_S)) (fun _ _ _ => none) (f_X1_readInto_B18 33 21) (f + 1) (nI (m + 1)) 0 σ2 = some (v, σ') ∧ f_X5_text_J74 44 τ1 = some (v, τ') ∧ TE T σ τ σ' τ' v := by
      intro r hs hr
      rw [hs] at k2
      have k2 : KC σ2 B l q1 w := k2
      obtain ⟨σ3, e3, a3⟩ := c_J63 (x := nI (m + 1)) hB hq1 k2
      obtain ⟨τ3, x3, y3, z3, u3⟩ := r_J87 (r := r) hB hq1 kr
      have f3 : ∀ a, a ≠ 33 → ¬ (21 ≤ a ∧ a < 31) → σ3 a = σ a := fun a h1 h2 => by rw [a3 a h1, f2 a h1 h2]
      have e74 : f_X5_text_J74 44 τ1 = f_X5_text_J87 44 (bi_ r) τ1 := by
        rw [e_X5_text_J74, gi_44_10, bd_s, jn_s, kr.2.1.1, hr]
        by_cases e : xts_ (xbt_ B l) q1 = 0
        · rw [if_pos (show nI (xts_ (xbt_ B l) q1) = 0 by rw [e]; rfl), decide_eq_true e]; rfl
        · rw [if_neg (show ¬ nI (xts_ (xbt_ B l) q1) = 0 from fun h => e ((nI_eq (b := 0) (by have := xts_lt (b := xbt_ B l) (q := q1); omega) (by omega)).mp h)), decide_eq_false e]; rfl
      rw [fx_s, e_X1_readInto_B18, jn_s, if_pos (show (0 : Int32) = 0 from rfl), e3, e74, x3, ← hr]
      cases z : (w || !r) with
      | true =>
        rw [if_pos rfl, if_pos rfl]
        exact ⟨_, σ3, τ3, rfl, rfl, f3, y3, fun j hj => by rw [z3 j (by omega), j44 j (by omega)], fun a h1 _ h3 => by rw [u3 a h1, jo a h1 h3], Or.inl ⟨⟨_, by omega, rfl⟩, by rw [u3 45 (by omega), jo 45 (by omega) (by omega)]⟩⟩
      | false =>
        obtain ⟨zw, zr⟩ := Bool.or_eq_false_iff.mp z
        obtain ⟨hlt, ρ', n', g', i', x15, x16, st⟩ := hw zw
        have ch : Ch (τ3 52) (m + 1) T (fun i => if i = m + 1 then ρ' else R i) (fun i => if i = m + 1 then n' else ν i) := by
          rw [u3 52 (by omega)]
          constructor
          · intro i hi
            simp only [if_neg (show ¬ i = m + 1 by omega)]
            by_cases e : i = m
            · subst e
              rw [if_pos rfl, if_pos rfl, hRm, hνm]
              exact st
            · rw [if_neg (by omega), if_neg (by omega)]
              exact (hCh.1 i (by omega)).mv (fun j hj => j52 j (by omega))
          · intro i hi
            by_cases e : i = m + 1
            · simp only [if_pos e]; exact i'
            · simp only [if_neg e]; exact hCh.2 i (by omega)
        obtain ⟨τ4, e4, r4, a4⟩ := r_doneL (M := m + 1) (T := T) (σ0 := τ3) (by omega) (by rw [z3 15 (by omega), x15]) ch (m + 1) 0 (by omega) fh_fu (by unfold fh_fu; omega) τ3 (by rw [u3 45 (by omega), jo 45 (by omega) (by omega)]; simp only [if_neg (show ¬ 0 = m + 1 by omega)]; exact hR0.symm) (fun _ _ => rfl)
        rw [nI_0] at e4
        simp only [if_true] at r4
        rw [if_neg (by decide), if_neg (by decide), e4]
        exact ⟨_, σ3, τ4, rfl, rfl, f3, by rw [a4 44 (by omega)]; exact y3, fun j hj => by rw [a4 44 (by omega), z3 j (by omega), j44 j (by omega)], fun a h1 h2 h3 => by rw [a4 a h2, u3 a h1, jo a h1 h3], Or.inr ⟨⟨m + 1, by omega, rfl⟩, ρ', n', g'.tr (fun a ha => by rw [a3 a ha, a2 a ha]), i', r4⟩⟩
    cases w with
    | true =>
      rw [show bi_ true = 1 from rfl, if_neg ne01]
      exact stop _ rfl rfl
    | false =>
      obtain ⟨hlt, ρ', n', g', i', x15, x16, st⟩ := hw rfl
      rw [show bi_ false = 0 from rfl, if_pos rfl, gi_44_10, bd_s, kr.2.1.1]
      rw [Bool.not_false, Bool.true_and] at k2 stop ⊢
      by_cases t3 : xts_ (xbt_ B l) q1 = 3
      · have lt := hte.2.2 (by omega)
        rw [if_pos (show nI (xts_ (xbt_ B l) q1) = 3 by rw [t3]; rfl), gr_44_6, bd_s, gi_44_8, bd_s, kr.2.1.2.1, ld_50 (by omega), bd_s, kr.1.2 _ (by omega), ← xbt_in (B := B) (show xtb_ (xbt_ B l) q1 < l by omega)]
        by_cases c59 : xbt_ B l (xtb_ (xbt_ B l) q1) = 59
        · have es : sg_ (xbt_ B l) 59 q1 = true := by unfold sg_; exact decide_eq_true ⟨t3, c59⟩
          rw [es] at k2
          have k2 : KC σ2 B l (xte_ (xbt_ B l) q1) false := k2
          obtain ⟨τ2, y2, ky2, fy2⟩ := r_must (r := true) hB hq1 kr
          have ky2 : KR τ2 B l (xte_ (xbt_ B l) q1) false := ky2
          rw [show bi_ true = 1 from rfl] at y2
          rw [if_pos c59, y2, fh_cb_s, es, show bi_ true = 1 from rfl]
          have ch : Ch (τ2 52) (m + 1) T (fun i => if i = m + 1 then ρ' else R i) (fun i => if i = m + 1 then n' else ν i) := by
            rw [fy2.2 52 (by omega)]
            constructor
            · intro i hi
              simp only [if_neg (show ¬ i = m + 1 by omega)]
              by_cases e : i = m
              · subst e
                rw [if_pos rfl, if_pos rfl, hRm, hνm]
                exact st
              · rw [if_neg (by omega), if_neg (by omega)]
                exact (hCh.1 i (by omega)).mv (fun j hj => j52 j (by omega))
            · intro i hi
              by_cases e : i = m + 1
              · simp only [if_pos e]; exact i'
              · simp only [if_neg e]; exact hCh.2 i (by omega)
          obtain ⟨v, σ', τ', b1, b2, b3, b4, b5, b6, b7⟩ := ih (xte_ (xbt_ B l) q1) (m + 1) n' ρ' _ _ σ2 τ2 (by omega) hte.2.1 (by omega) k2 (g'.tr a2) i' ky2 (by rw [fy2.1 16 (by omega), x16]) (by rw [fy2.1 15 (by omega), x15]) ch (by simp only [if_true]) (by simp only [if_true]) (by simp only [if_neg (show ¬ 0 = m + 1 by omega)]; rw [fy2.2 45 (by omega), jo 45 (by omega) (by omega)]; exact hR0) (f + 1) f' (by omega) (by omega)
          refine ⟨v, σ', τ', b1, b2, fun a h1 h2 => by rw [b3 a h1 h2, f2 a h1 h2], b4, fun j hj => by rw [b5 j hj, fy2.1 j (by omega), j44 j (by omega)], fun a h1 h2 h3 => by rw [b6 a h1 h2 h3, fy2.2 a h1, jo a h1 h3], ?_⟩
          rw [fy2.2 45 (by omega), jo 45 (by omega) (by omega)] at b7
          exact b7
        · have es : sg_ (xbt_ B l) 59 q1 = false := by unfold sg_; exact decide_eq_false (fun h => c59 h.2)
          rw [if_neg c59, es, show bi_ false = 0 from rfl]
          exact stop _ es rfl
      · have es : sg_ (xbt_ B l) 59 q1 = false := by unfold sg_; exact decide_eq_false (fun h => t3 h.1)
        rw [if_neg (show ¬ nI (xts_ (xbt_ B l) q1) = 3 from fun h => t3 ((nI_eq (b := 3) (by have := xts_lt (b := xbt_ B l) (q := q1); omega) (by omega)).mp h)), es, show bi_ false = 0 from rfl]
        exact stop _ es rfl
