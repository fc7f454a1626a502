/-! ===== text: the call ===== -/
theorem RR.txt {τ τ' A : fh_S} {ρ : fh_Rw} (h : RR τ A) (h7 : τ' 44 7 = 0) (h3 : τ' 44 3 = τ 44 3) (h45 : τ' 45 = ρ) (hk : ∀ a, 44 ≤ a → a ≠ 44 → a ≠ 45 → a ≠ 52 → τ' a = τ a) : RR τ' (fs (fh_row A 45 ρ) 44 7 0) := by
  obtain ⟨g1, g2, g3, g4, g5, g6, g7, g8, g9⟩ := h
  unfold RR
  simp only [fs_o (show 45 ≠ 44 by omega), fs_o (show 46 ≠ 44 by omega), fs_o (show 48 ≠ 44 by omega), fs_o (show 50 ≠ 44 by omega), fs_o (show 53 ≠ 44 by omega), fs_o (show 54 ≠ 44 by omega), fs_o (show 55 ≠ 44 by omega), fs_ne (show 3 ≠ 7 by omega), fs_s, fh_row_s, fh_row_n (show 44 ≠ 45 by omega), fh_row_n (show 46 ≠ 45 by omega), fh_row_n (show 48 ≠ 45 by omega), fh_row_n (show 50 ≠ 45 by omega), fh_row_n (show 53 ≠ 45 by omega), fh_row_n (show 54 ≠ 45 by omega), fh_row_n (show 55 ≠ 45 by omega)]
  rw [hk 46 (by omega) (by omega) (by omega) (by omega), hk 48 (by omega) (by omega) (by omega) (by omega), hk 50 (by omega) (by omega) (by omega) (by omega), hk 53 (by omega) (by omega) (by omega) (by omega), hk 54 (by omega) (by omega) (by omega) (by omega), hk 55 (by omega) (by omega) (by omega) (by omega), h3]
  exact ⟨h45, g2, g3, g4, h7, g6, g7, g8, g9⟩
theorem s_text : fh_Stp (f_X4_text 0) (f_X5_text 44) := by
  apply fh_Stp.mk
  intro N A σ τ hN hA hC hR
  obtain ⟨n, hI⟩ := hA.1
  obtain ⟨l, hl, el⟩ := hA.2.2.1
  have hB : hB_ (A 50) l := ⟨hl, hA.2.2.2.1⟩
  obtain ⟨σ1, e1, g1, c1, k1⟩ := c_try hC
  have tc1 : TC (fs (fs σ1 33 5 (-1)) 33 3 0) (A 50) l := by
    have : TC σ1 (A 50) l := ⟨by rw [c1.2.2.2.2.1, el], fun j hj => c1.2.2.2.2.2.1 j hj⟩
    exact this.mv (by rw [fs_o (by omega), fs_o (by omega)]) (by rw [fs_o (by omega), fs_o (by omega)])
  obtain ⟨σ2, e2, t2, u2, a2⟩ := c_find (q := 0) hl tc1 (by omega) (by rw [fs_s]; rfl)
  have f2 : ∀ a, a ≠ 33 → σ2 a = σ1 a := fun a ha => by rw [a2 a ha, fs_o ha, fs_o ha]
  have K2 : KC σ2 (A 50) l 0 false := ⟨tc1.mv (by rw [a2 31 (by omega)]) (by rw [a2 32 (by omega)]), t2, by rw [u2, fs_ne (by omega), fs_s]; rfl⟩
  have tr1 : TR (fs (fs (fs (fs τ 44 9 0) 44 12 0) 44 15 0) 44 16 (nI n)) (A 50) l := by
    have : TR τ (A 50) l := ⟨by rw [hR.2.2.2.2.1, el], fun j hj => by rw [hR.2.2.2.2.2.1]⟩
    exact this.mv (by rw [fs_ne (by omega), fs_ne (by omega), fs_ne (by omega), fs_ne (by omega)]) (by rw [fs_o (by omega), fs_o (by omega), fs_o (by omega), fs_o (by omega)])
  obtain ⟨τ2, y2, tk2, v2, b2⟩ := r_next (q := 0) hl tr1 (by omega) (by rw [fs_ne (by omega), fs_ne (by omega), fs_ne (by omega), fs_s]; rfl)
  have R2 : KR τ2 (A 50) l 0 false := ⟨tr1.mv (v2 7 (by omega)) (b2 50 (by omega)), tk2, by rw [v2 12 (by omega), fs_ne (by omega), fs_ne (by omega), fs_s]; rfl⟩
  have h45 : τ2 45 = A 45 := by rw [b2 45 (by omega), fs_o (by omega), fs_o (by omega), fs_o (by omega), fs_o (by omega), hR.1]
  have g2 : GR 21 σ2 (A 45) := g1.tr f2
  obtain ⟨v, σ3, τ3, cc, rr, w1, w2, w3, w4, w5⟩ := text_L (T := 100 * N) hB (l + 1) 0 0 n (A 45) (fun _ => A 45) (fun _ => n) σ2 τ2 (by omega) (by omega) (by omega) K2 g2 hI R2 (by rw [v2 16 (by omega), fs_s]) (by rw [v2 15 (by omega), fs_ne (by omega), fs_s]; rfl) ⟨fun i hi => by omega, fun _ _ => hI⟩ rfl rfl h45.symm fh_fu fh_fu (by unfold fh_fu; omega) (by unfold fh_fu; omega)
  rw [nI_0] at cc
  have rdr : f_X1_readInto 33 21 σ1 = some (v, σ3) := by
    unfold f_X1_readInto
    rw [ob_R, pf_33_5, bd_s, pf_33_3, bd_s, e2, fh_cb_s, cc]
  have ref : f_X5_text 44 τ = some (v, τ3) := by
    unfold f_X5_text
    rw [ob_M, pf_44_9, bd_s]
    unfold fh_pz
    rw [if_pos (Or.inl rfl), pf_44_12, bd_s, pf_44_15, bd_s, gr_44_0, bd_s, ld_45_1, bd_s, fs_o (show 45 ≠ 44 by omega), fs_o (show 45 ≠ 44 by omega), fs_o (show 45 ≠ 44 by omega), hR.1, hI.2.1, pf_44_16, bd_s, y2, fh_cb_s]
    exact rr
  have x3 : τ3 44 3 = τ 44 3 := by rw [w3 3 (by omega), v2 3 (by omega), fs_ne (by omega), fs_ne (by omega), fs_ne (by omega), fs_ne (by omega)]
  have xk : ∀ a, a ≠ 44 → a ≠ 45 → a ≠ 52 → τ3 a = τ a := fun a h1 h2 h3 => by rw [w4 a h1 h2 h3, b2 a h1, fs_o h1, fs_o h1, fs_o h1, fs_o h1]
  have ck : ∀ a, a ≠ 33 → ¬ (21 ≤ a ∧ a < 31) → σ3 a = σ a := fun a h1 h2 => by rw [w1 a h1 h2, f2 a h1, k1 a h2]
  have C3 : CR σ3 A := hC.mv (fun k _ h2 h3 => ck k h3 h2)
  unfold f_X4_text
  rw [ob_H, gr_0_2, bd_s, gr_0_0, bd_s, e1, fh_cb_s, gr_0_4, bd_s, bd_s, rdr, fh_cb_s, jn_s, ref]
  rcases w5 with ⟨⟨p, hp, rfl⟩, q45⟩ | ⟨⟨c, hc, rfl⟩, ρ', n', gg, ii, q45⟩
  · have neg : -1 - nI p < 0 := by
      rw [Int32.lt_iff_toInt_lt, sm_sub (by decide) (by rw [nI_toInt (by omega)]; omega), nI_toInt (by omega), i_0, show (-1 : Int32).toInt = -1 from rfl]
      omega
    rw [if_pos neg, e_X4_text_J38, gr_0_3, bd_s, pf_31_1, bd_s]
    have rA := hR.txt w2 x3 (q45.trans h45) (fun a _ h1 h2 h3 => xk a h1 h2 h3)
    rw [row_id] at rA
    exact ⟨_, fs A 44 7 0, (hA.mono (by omega)).len' (l := 0) (by omega), ⟨_, rfl, C3.len, fun k hk => by rw [fs_o (by omega), ck k (by omega) (by omega)]⟩, ⟨_, rfl, rA, fun k hk => xk k (by omega) (by omega) (by omega)⟩⟩
  · obtain ⟨σ4, e4, g4, a4⟩ := c_become (g := 1) (h := 21) (by simp) gg
    rw [if_neg (nI_pos (by omega)), bd_s, bd_s, e4, fh_cb_s, e_X4_text_J38, gr_0_3, bd_s, pf_31_1, bd_s]
    have C4 : CR σ4 (fh_row A 45 ρ') := C3.now g4 (fun k _ h1 h2 h3 => a4 k (by omega))
    exact ⟨_, fs (fh_row A 45 ρ') 44 7 0, (hA.now (ii.mono (by omega))).len' (l := 0) (by omega), ⟨_, rfl, C4.len, fun k hk => by rw [fs_o (by omega), a4 k (by omega), ck k (by omega) (by omega)]⟩, ⟨_, rfl, hR.txt w2 x3 q45 (fun a _ h1 h2 h3 => xk a h1 h2 h3), fun k hk => xk k (by omega) (by omega) (by omega)⟩⟩
