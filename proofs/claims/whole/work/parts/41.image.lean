/-! ===== image, as ===== -/
theorem CR.img {σ σ1 A : fh_S} {ρ : fh_Rw} (h : CR σ A) (hG : GR 11 σ1 ρ) (hk : ∀ a, ¬ (11 ≤ a ∧ a < 11 + 8) → σ1 a = σ a) : CR σ1 (fh_row A 46 ρ) := by
  obtain ⟨h1, h2, h3, h4, h5, h6, h7⟩ := h
  unfold CR
  rw [fh_row_s, fh_row_n (show 44 ≠ 46 by omega), fh_row_n (show 45 ≠ 46 by omega), fh_row_n (show 48 ≠ 46 by omega), fh_row_n (show 50 ≠ 46 by omega), fh_row_n (show 53 ≠ 46 by omega), fh_row_n (show 54 ≠ 46 by omega), fh_row_n (show 55 ≠ 46 by omega)]
  refine ⟨h1.mv (fun k _ _ => hk k (by omega)), fun _ => hG, by rw [hk 0 (by omega)]; exact h3, fun j hj => by rw [hk 43 (by omega)]; exact h4 j hj, by rw [hk 31 (by omega)]; exact h5, fun j hj => by rw [hk 32 (by omega)]; exact h6 j hj, fun s hs => ?_⟩
  rw [hk (35 + 2 * s) (by omega), hk (36 + 2 * s) (by omega)]
  exact h7 s hs
theorem RR.img {σ σ1 A : fh_S} {ρ : fh_Rw} (h : RR σ A) (hG : σ1 46 = ρ) (hk : ∀ a, a ≠ 46 → σ1 a = σ a) : RR σ1 (fh_row A 46 ρ) := by
  obtain ⟨h1, h2, h3, h4, h5, h6, h7, h8, h9⟩ := h
  unfold RR
  rw [fh_row_s, fh_row_n (show 44 ≠ 46 by omega), fh_row_n (show 45 ≠ 46 by omega), fh_row_n (show 48 ≠ 46 by omega), fh_row_n (show 50 ≠ 46 by omega), fh_row_n (show 53 ≠ 46 by omega), fh_row_n (show 54 ≠ 46 by omega), fh_row_n (show 55 ≠ 46 by omega), hk 45 (by omega), hk 44 (by omega), hk 48 (by omega), hk 50 (by omega), hk 53 (by omega), hk 54 (by omega), hk 55 (by omega)]
  exact ⟨h1, hG, h3, h4, h5, h6, h7, h8, h9⟩
theorem AI.img {A : fh_S} {N n : Nat} {ρ : fh_Rw} (h : AI A N) (hI : RI ρ n (100 * N)) : AI (fh_row A 46 ρ) N := by
  obtain ⟨h1, h2, h3⟩ := h
  unfold AI
  rw [fh_row_s, fh_row_n (show 44 ≠ 46 by omega), fh_row_n (show 45 ≠ 46 by omega), fh_row_n (show 48 ≠ 46 by omega), fh_row_n (show 50 ≠ 46 by omega), fh_row_n (show 53 ≠ 46 by omega), fh_row_n (show 54 ≠ 46 by omega)]
  refine ⟨h1, ?_, h3⟩
  rcases h2 with e | ⟨e, -⟩
  · exact Or.inl e
  · exact Or.inr ⟨e, n, hI⟩
theorem s_image : fh_Stp (f_X4_image 0) (f_X5_image 44) := by
  apply fh_Stp.mk
  intro N A σ τ hN hA hC hR
  obtain ⟨n, hI⟩ := hA.1
  unfold f_X4_image f_X5_image
  rw [ob_H, ob_M, gr_0_1, bd_s, gr_0_0, bd_s, gr_44_0, bd_s, gr_44_1, bd_s]
  obtain ⟨σ1, e1, g1, k1⟩ := c_become (Or.inr (Or.inl rfl)) hC.1
  obtain ⟨τ1, e2, g2, k2⟩ := r_copy ar_45 ar_46 (by omega) τ
  rw [e1, fh_cb_s, pz_0_7 (Or.inr rfl), bd_s, e2, fh_cb_s, pz_44_3 (Or.inr rfl), bd_s]
  have hτ : τ1 46 = fun j => if j < 73 then A 45 j else A 46 j := by
    funext j
    rw [g2 j, hR.1, hR.2.1]
  have hc : ∀ j, j < 73 → (fun j => if j < 73 then A 45 j else A 46 j) j = A 45 j := fun j hj => if_pos hj
  have c1 := hC.img (g1.cg hc) k1
  have r1 := hR.img hτ k2
  have a1 := hA.img (hI.cg hc)
  refine ⟨_, fs (fh_row A 46 (fun j => if j < 73 then A 45 j else A 46 j)) 44 3 1, a1.kept (Or.inr ⟨rfl, n, ?_⟩), ⟨_, rfl, c1.kept (fun _ => ?_), fun k hk => ?_⟩, ⟨_, rfl, r1.kept, fun k hk => ?_⟩⟩
  · rw [fh_row_s]
    exact hI.cg hc
  · rw [fh_row_s]
    exact g1.cg hc
  · rw [fs_o (by omega)]
    exact k1 k (by omega)
  · rw [fs_o (by omega)]
    exact k2 k (by omega)
/-! as -/
def ck_ (a : Int32) : Nat → Int32 → Int32 → Option Int32
  | 0, _, _ => none
  | f + 1, x, y => if 7 ≤ y then some 0 else if wb x 0 6 = 0 then some 0 else if x = a then some 1 else (fh_tk x).bind fun v => ck_ a f v (y + 1)
theorem ck_mono {a : Int32} : ∀ (n m : Nat) (x y v : Int32), n ≤ m → ck_ a n x y = some v → ck_ a m x y = some v := by
  intro n
  induction n with
  | zero => intro m x y v _ h; cases h
  | succ n ih =>
    intro m x y v hm h
    obtain ⟨m, rfl⟩ : ∃ k, m = k + 1 := ⟨m - 1, by omega⟩
    unfold ck_ at h ⊢
    split
    · next q => rw [if_pos q] at h; exact h
    · next q =>
      rw [if_neg q] at h
      split
      · next q => rw [if_pos q] at h; exact h
      · next q =>
        rw [if_neg q] at h
        split
        · next q => rw [if_pos q] at h; exact h
        · next q =>
          rw [if_neg q] at h
          cases w : fh_tk x with
          | none => rw [w] at h; cases h
          | some u =>
            rw [w, bd_s] at h
            exact ih m u (y + 1) v (by omega) h
theorem c_ofL {a : Int32} {σ : fh_S} : ∀ (n : Nat) (x y : Int32), fh_fx (ρ := Int32 → Int32 → fh_S → Option (Int32 × fh_S)) (fun _ _ _ => none) (f_X4_isOfKind_B4 a) n x y σ = (ck_ a n x y).map (fun v => (v, σ)) := by
  intro n
  induction n with
  | zero => intro x y; rfl
  | succ n ih =>
    intro x y
    rw [fx_s, e_X4_isOfKind_B4, c_isKind, fh_cb_s]
    unfold ck_
    split
    · rfl
    · split
      · rfl
      · split
        · rfl
        · cases w : fh_tk x with
          | none => rfl
          | some u => exact ih u (y + 1)
def av_ (x : Int32) : Int32 := if x = 0 then -1 else if x = 3 then 2 else if x = 4 then 3 else if x = 6 then 1 else 0
theorem r_above {x : Int32} {σ : fh_S} : f_X5_above x σ = some (av_ x, σ) := by
  unfold f_X5_above av_
  repeat (split; rfl)
  rfl
def uk_ (a : Int32) : Nat → Int32 → Option Int32
  | 0, _ => none
  | f + 1, x => if x < 0 then some 0 else if x = a then some 1 else uk_ a f (av_ x)
theorem uk_mono {a : Int32} : ∀ (n m : Nat) (x v : Int32), n ≤ m → uk_ a n x = some v → uk_ a m x = some v := by
  intro n
  induction n with
  | zero => intro m x v _ h; cases h
  | succ n ih =>
    intro m x v hm h
    obtain ⟨m, rfl⟩ : ∃ k, m = k + 1 := ⟨m - 1, by omega⟩
    unfold uk_ at h ⊢
    split
    · next q => rw [if_pos q] at h; exact h
    · next q =>
      rw [if_neg q] at h
      split
      · next q => rw [if_pos q] at h; exact h
      · next q =>
        rw [if_neg q] at h
        exact ih m _ v (by omega) h
theorem r_unL {a : Int32} {σ : fh_S} : ∀ (n : Nat) (x : Int32), fh_fx (ρ := Int32 → fh_S → Option (Int32 × fh_S)) (fun _ _ => none) (f_X5_isUnder_B2 a) n x σ = (uk_ a n x).map (fun v => (v, σ)) := by
  intro n
  induction n with
  | zero => intro x; rfl
  | succ n ih =>
    intro x
    rw [fx_s, e_X5_isUnder_B2, jn_s, e_X5_isUnder_J19, r_above, fh_cb_s]
    unfold uk_
    by_cases q : x < 0
    · rw [if_pos q, if_pos q, if_pos q]
      rfl
    · rw [if_neg q, if_neg q, if_neg q]
      by_cases w : x = a
      · rw [if_pos w, if_pos w]
        rfl
      · rw [if_neg w, if_neg w]
        exact ih _
theorem of_un : ∀ k, k < 7 → ∀ j, j < 7 → ck_ (nI j) 8 (nI k) 0 = uk_ (nI j) 8 (nI k) ∧ (uk_ (nI j) 8 (nI k) = some 0 ∨ uk_ (nI j) 8 (nI k) = some 1) := by decide +kernel
theorem of_both {k j : Nat} {σ τ : fh_S} (hk : k < 7) (hj : j < 7) : ∃ v, (v = 0 ∨ v = 1) ∧ f_X4_isOfKind (nI k) (nI j) σ = some (v, σ) ∧ f_X5_isUnder (nI k) (nI j) τ = some (v, τ) := by
  obtain ⟨h1, h2⟩ := of_un k hk j hj
  unfold f_X4_isOfKind f_X5_isUnder
  rw [c_ofL, r_unL]
  rcases h2 with h | h
  · rw [h] at h1
    rw [ck_mono 8 fh_fu _ _ _ (by unfold fh_fu; omega) h1, uk_mono 8 fh_fu _ _ (by unfold fh_fu; omega) h]
    exact ⟨0, Or.inl rfl, rfl, rfl⟩
  · rw [h] at h1
    rw [ck_mono 8 fh_fu _ _ _ (by unfold fh_fu; omega) h1, uk_mono 8 fh_fu _ _ (by unfold fh_fu; omega) h]
    exact ⟨1, Or.inr rfl, rfl, rfl⟩
theorem db_m1 {n : Nat} : db (-1) n = 0 := by
  unfold db
  rw [if_pos (by decide)]
theorem db_in {m n : Nat} (hm : m < n) (hn : n ≤ 10) : db (nI m) n = 1 := by
  unfold db
  rw [if_neg (show ¬ nI m < 0 from nI_nlt (b := 0) (by omega) (by omega)), if_neg (nI_ge (by omega) (by omega))]
theorem s_as (a b : Int32) : fh_Stp (f_X4_as 0 a b) (f_X5_as 44 a b) := by
  apply fh_Stp.mk
  intro N A σ τ hN hA hC hR
  obtain ⟨n, hI⟩ := hA.1
  have hn := hI.1
  have hsz : σ 1 9 = nI n := by rw [hC.1.1]; exact hI.2.1
  have bad : ∃ v' A', AI A' (N + 1) ∧ cE (f_X4_as_J14 0 σ) σ A' v' ∧ rE (f_X5_as_J14 44 τ) τ A' v' := by
    rw [e_X4_as_J14, e_X5_as_J14, cb_id, cb_id]
    exact ⟨_, _, hA.tell (by omega), c_tell0 hC, r_find0 hR⟩
  unfold f_X4_as f_X5_as
  rw [ob_H, ob_M, c_isSpot, fh_cb_s, r_isSpot, fh_cb_s]
  simp only [jn_s]
  rcases wb_or a 0 9 with q | ⟨q, -⟩
  · rw [q, if_pos rfl, if_pos rfl]
    exact bad
  · obtain ⟨j, hj, rfl⟩ := wb_nI (a := a) (h := 9) (by omega) q
    rw [q, if_neg ne01, if_neg ne01, c_isKind, fh_cb_s, r_isKind, fh_cb_s]
    rcases wb_or b 0 6 with w | ⟨w, -⟩
    · rw [w, if_pos rfl, if_pos rfl]
      exact bad
    · obtain ⟨k, hk, rfl⟩ := wb_nI (a := b) (h := 6) (by omega) w
      rw [w, if_neg ne01, if_neg ne01, gr_0_0, bd_s, gr_G6 fhG1, bd_s, ld_G7 fhG1 (by omega), bd_s, bd_s, c_has fhG1 hsz, fh_cb_s, gr_44_0, bd_s, bd_s, show (3 : Int32) = nI 3 from rfl, nI_add, ld_45 (by omega), bd_s, hC.1.2.2.2.1 j (by omega), hR.1]
      rcases hI.2.2.2.1 j (by omega) with e | ⟨m, hm, e⟩
      · rw [e, db_m1, if_pos rfl, if_neg (show ¬ (0 : Int32) ≤ -1 by decide), cb_id, cb_id]
        exact ⟨_, _, hA.tell (by omega), c_tell5 hC, r_find5 hR⟩
      · obtain ⟨kk, hkk, ek⟩ := (hI.ok (f := 0) hm).1 rfl
        rw [e, db_in hm hn, if_neg ne01, if_pos (show (0 : Int32) ≤ nI m from nI_le (a := 0) (by omega) (by omega)), gr_G0 fhG1, bd_s, ld_G1 fhG1 (by omega), bd_s, r_is0 (by omega), fh_cb_s, hC.1.f0 (by omega), hR.1, ek]
        obtain ⟨v, hv, e1, e2⟩ := of_both (σ := σ) (τ := τ) hkk (show k < 7 by omega)
        rw [e1, e2, fh_cb_s, fh_cb_s]
        rcases hv with rfl | rfl
        · rw [if_pos rfl, if_pos rfl, cb_id, cb_id]
          exact ⟨_, _, hA.tell (by omega), c_tell2 hC, r_find2 hR⟩
        · rw [if_neg ne01, if_neg ne01]
          exact ⟨_, A, hA.mono (by omega), ⟨σ, rfl, hC, fun _ _ => rfl⟩, ⟨τ, rfl, hR, fun _ _ => rfl⟩⟩
