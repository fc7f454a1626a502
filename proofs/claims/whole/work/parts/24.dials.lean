/-! ===== dials ===== -/
theorem fhG1 : fh_G 1 := Or.inl rfl
theorem fhG11 : fh_G 11 := Or.inr (Or.inl rfl)
theorem fhG21 : fh_G 21 := Or.inr (Or.inr rfl)
/-- a class's answer out of one that has been taken further -/
theorem cE.bk {β : Type} {x : Option (β × fh_S)} {σ σ0 A : fh_S} {v : β} (h : cE x σ A v) (hk : ∀ k, 44 ≤ k → σ k = σ0 k) : cE x σ0 A v := by
  obtain ⟨σ1, a, b, c⟩ := h
  exact ⟨σ1, a, b, fun k h => by rw [c k h]; exact hk k h⟩
theorem rE.bk {β : Type} {x : Option (β × fh_S)} {σ σ0 A : fh_S} {v : β} (h : rE x σ A v) (hk : ∀ k, k < 44 → σ k = σ0 k) : rE x σ0 A v := by
  obtain ⟨σ1, a, b, c⟩ := h
  exact ⟨σ1, a, b, fun k h => by rw [c k h]; exact hk k h⟩
theorem c_add {n T : Nat} {σ : fh_S} {ρ : fh_Rw} {g : Nat} {k : Int32} (hg : fh_G g) (hR : GR g σ ρ) (hI : RI ρ n T) (hn : n < 10) : ∃ σ', f_X0_add g k σ = some (nI n, σ') ∧ GR g σ' (cm_ ρ n k 0 (nI n) 1 0 0) ∧ ∀ a, ¬ (g ≤ a ∧ a < g + 10) → σ' a = σ a := by
  unfold f_X0_add
  have hsz : σ g 9 = nI n := by rw [hR.1]; exact hI.2.1
  have hm : mn_ (nI n) 9 = nI n := by
    unfold mn_
    rw [show (9 : Int32) = nI 9 from rfl, if_neg (nI_nlt (by omega) (by omega))]
  simp only [ob_G hg, gi_G9 hg, bd_s, hsz, j_min, fh_cb_s, hm, gr_G0 hg, gr_G1 hg, gr_G2 hg, gr_G3 hg, gr_G4 hg, gr_G5 hg, st_G1 hg hn, st_G2 hg hn, st_G3 hg hn, st_G4 hg hn, st_G5 hg hn, st_G6 hg hn, pf_G9 hg, nI_1]
  refine ⟨_, rfl, ?_, fun a ha => ?_⟩
  · exact (((((((hR.st (show 0 < 6 by omega) hn k).st (show 1 < 6 by omega) hn 0).st (show 2 < 6 by omega) hn (nI n)).st (show 3 < 6 by omega) hn 1).st (show 4 < 6 by omega) hn 0).st (show 5 < 6 by omega) hn 0).sz (nI (n + 1)))
  · rw [fs_o (by omega), fs_o (by omega), fs_o (by omega), fs_o (by omega), fs_o (by omega), fs_o (by omega), fs_o (by omega)]
theorem r_comes {n T : Nat} {σ : fh_S} {k h m g s ms : Int32} (hI : RI (σ 45) n T) (hn : n < 10) : ∃ σ', f_X5_comes 44 k h m g s ms σ = some (nI n, σ') ∧ σ' 45 = cm_ (σ 45) n k h (if 0 ≤ m then m else nI n) g s ms ∧ ∀ a, a ≠ 45 → σ' a = σ a := by
  have key : ∀ (m' : Int32), ∃ σ', f_X5_comes_J52 45 (nI (13 + 6 * n + 2)) 44 (nI n) g s ms m' (fs (fs σ 45 (13 + 6 * n + 0) k) 45 (13 + 6 * n + 1) h) = some (nI n, σ') ∧ σ' 45 = cm_ (σ 45) n k h m' g s ms ∧ ∀ a, a ≠ 45 → σ' a = σ a := by
    intro m'
    rw [e_X5_comes_J52]
    unfold f_X5_at
    simp only [gr_44_0, bd_s, fh_cb_s, at_3, at_4, at_5]
    rw [st_45 (by omega), bd_s, st_45 (by omega), bd_s, st_45 (by omega), bd_s, st_45 (by omega), bd_s, ld_45_1, bd_s, st_45_1, bd_s]
    refine ⟨_, rfl, ?_, fun a ha => ?_⟩
    · simp only [fs_row]
      rw [pk_un (by omega), pk_un (by omega), pk_un (by omega), pk_un (by omega), pk_un (by omega), pk_un (by omega), hI.2.1, nI_1]
      rfl
    · rw [fs_o ha, fs_o ha, fs_o ha, fs_o ha, fs_o ha, fs_o ha, fs_o ha]
  unfold f_X5_comes
  have e0 : (13 : Int32) + 6 * nI n + 0 = nI (13 + 6 * n + 0) := at_0 n
  unfold f_X5_at
  simp only [ob_M, gr_44_0, bd_s, ld_45_1, hI.2.1, fh_cb_s, e0, at_1, at_2, jn_s]
  rw [st_45 (by omega), bd_s, st_45 (by omega), bd_s]
  split
  · exact key m
  · exact key (nI n)
theorem c_isFull {g n T : Nat} {σ : fh_S} {ρ : fh_Rw} (hg : fh_G g) (hR : GR g σ ρ) (hI : RI ρ n T) : f_X0_isFull g σ = some (if n < 10 then 0 else 1, σ) := by
  have hn := hI.1
  unfold f_X0_isFull
  have hsz : σ g 9 = nI n := by rw [hR.1]; exact hI.2.1
  simp only [ob_G hg, gi_G9 hg, bd_s, hsz]
  by_cases h : n < 10
  · rw [if_pos (by rw [show (10 : Int32) = nI 10 from rfl]; exact nI_lt h (by omega)), if_pos h]; rfl
  · rw [if_neg (by rw [show (10 : Int32) = nI 10 from rfl]; exact nI_nlt (by omega) (by omega)), if_neg h]; rfl
theorem s_dial (a : Int32) : fh_Stp (f_X4_dial 0 a) (f_X5_dial 44 a) := by
  apply fh_Stp.mk
  intro N A σ τ hN hA hC hR
  obtain ⟨n, hI⟩ := hA.1
  have hn := hI.1
  have hIt : RI (τ 45) n (100 * N) := by rw [hR.1]; exact hI
  unfold f_X4_dial f_X5_dial
  simp only [ob_H, ob_M, c_isKind, r_isKind, fh_cb_s, gr_0_0, gr_44_0, bd_s, cb_id, c_isFull fhG1 hC.1 hI, ld_45_1, hIt.2.1]
  rcases wb_or a 0 6 with h | ⟨h, h1, h2⟩
  · rw [h]
    simp only [if_true]
    exact ⟨_, _, hA.tell (by omega), c_tell0 hC, r_find0 hR⟩
  · rw [h]
    simp only [ne01, if_false]
    by_cases hf : n < 10
    · rw [if_pos hf, if_pos rfl, if_neg (by rw [show (10 : Int32) = nI 10 from rfl, nI_eq (by omega) (by omega)]; omega)]
      obtain ⟨σ1, e1, g1, k1⟩ := c_add (k := a) fhG1 hC.1 hI hf
      obtain ⟨τ1, e2, g2, k2⟩ := r_comes (k := a) (h := 0) (m := -1) (g := 1) (s := 0) (ms := 0) hIt hf
      obtain ⟨kk, hkk, ea⟩ := wb_nI (a := a) (h := 6) (by omega) h
      refine ⟨nI n, fh_row A 45 (cm_ (A 45) n a 0 (nI n) 1 0 0), hA.now ((hI.mono (by omega)).comes hf ⟨fun _ => ⟨kk, by omega, ea⟩, by simp, by simp, by simp, by simp, by simp⟩ ⟨by simp, fun _ => ⟨0, by omega, rfl⟩, by simp, by simp, by simp, by simp⟩ ⟨by simp, by simp, fun _ => ⟨n, by omega, rfl⟩, by simp, by simp, by simp⟩ ⟨by simp, by simp, by simp, fun _ => by decide, by simp, by simp⟩ ⟨by simp, by simp, by simp, by simp, fun _ => Or.inl rfl, by simp⟩ ⟨by simp, by simp, by simp, by simp, by simp, fun _ => ⟨0, by omega, rfl⟩⟩), ⟨σ1, e1, hC.now g1 (fun k _ h _ _ => k1 k (by omega)), fun k hk => k1 k (by omega)⟩, ⟨τ1, e2, hR.now (by rw [g2, hR.1, if_neg (by decide)]) (fun k _ h _ _ _ _ => k2 k h), fun k hk => k2 k (by omega)⟩⟩
    · obtain rfl : n = 10 := by omega
      rw [if_neg hf, if_neg ne01, if_pos (show nI 10 = 10 from rfl)]
      exact ⟨_, _, hA.tell (by omega), c_tell1 hC, r_find1 hR⟩
theorem c_rowOf {w : Nat} {σ : fh_S} (hw : w < 6) : f_X0_rowOf 1 (nI w) σ = some (some (2 + w), σ) := by
  unfold f_X0_rowOf
  rcases (show w = 0 ∨ w = 1 ∨ w = 2 ∨ w = 3 ∨ w = 4 ∨ w = 5 by omega) with rfl | rfl | rfl | rfl | rfl | rfl <;> rfl
theorem c_rowOfN {a : Int32} {σ : fh_S} (h0 : ¬ a = 0) (h1 : ¬ a = 1) (h2 : ¬ a = 2) (h3 : ¬ a = 3) (h4 : ¬ a = 4) (h5 : ¬ a = 5) : f_X0_rowOf 1 a σ = some (none, σ) := by
  unfold f_X0_rowOf
  rw [ob_G fhG1, if_neg h0, if_neg h1, if_neg h2, if_neg h3, if_neg h4, if_neg h5]
theorem r_isf {d f : Nat} {σ : fh_S} (hd : d < 10) (hf : f < 6) : f_X5_dialIs 44 (nI d) (nI f) σ = some (σ 45 (13 + 6 * d + f), σ) := by
  rcases (show f = 0 ∨ f = 1 ∨ f = 2 ∨ f = 3 ∨ f = 4 ∨ f = 5 by omega) with rfl | rfl | rfl | rfl | rfl | rfl
  · exact r_is0 hd
  · exact r_is1 hd
  · exact r_is2 hd
  · exact r_is3 hd
  · exact r_is4 hd
  · exact r_is5 hd
theorem s_of (a b : Int32) : fh_Stp (f_X4_of 0 a b) (f_X5_of 44 a b) := by
  apply fh_Stp.mk
  intro N A σ τ hN hA hC hR
  obtain ⟨n, hI⟩ := hA.1
  have hn := hI.1
  have hIt : RI (τ 45) n (100 * N) := by rw [hR.1]; exact hI
  unfold f_X4_of f_X5_of
  simp only [ob_H, ob_M, gr_0_0, bd_s, c_has fhG1 (show σ 1 9 = nI n by rw [hC.1.1]; exact hI.2.1), r_isDial (show n ≤ 1000 by omega) hIt.2.1, fh_cb_s, cb_id, jn_s, e_X5_of_J18, r_within]
  rcases db_or a (show n ≤ 1000 by omega) with h | ⟨h, d, hd, rfl⟩
  · rw [h]
    simp only [if_true]
    exact ⟨_, _, hA.tell (by omega), c_tell0 hC, r_find0 hR⟩
  · rw [h]
    simp only [ne01, if_false]
    by_cases h6 : b = 6
    · subst h6
      rw [if_pos rfl, show wb (6 : Int32) 0 6 = 1 from by decide, if_neg ne01, if_pos rfl, c_pace fhG1 hC.1 hI hd, r_pace hIt hd, hR.1]
      exact ⟨_, A, hA.mono (by omega), ⟨σ, rfl, hC, fun _ _ => rfl⟩, ⟨τ, rfl, hR, fun _ _ => rfl⟩⟩
    · rw [if_neg h6]
      rcases wb_or b 0 6 with q | ⟨q, -⟩
      · rw [q, if_pos rfl, c_rowOfN (by rintro rfl; exact absurd q (by decide)) (by rintro rfl; exact absurd q (by decide)) (by rintro rfl; exact absurd q (by decide)) (by rintro rfl; exact absurd q (by decide)) (by rintro rfl; exact absurd q (by decide)) (by rintro rfl; exact absurd q (by decide)), fh_cb_s, on_n]
        exact ⟨_, _, hA.tell (by omega), c_tell0 hC, r_find0 hR⟩
      · obtain ⟨w, hw, rfl⟩ := wb_nI (a := b) (h := 6) (by omega) q
        have hw6 : w < 6 := by
          rcases Nat.lt_or_ge w 6 with z | z
          · exact z
          · exact absurd (by rw [show w = 6 by omega]; rfl) h6
        rw [q, if_neg ne01, if_neg h6, c_rowOf hw6, fh_cb_s, on_s, r_isf (by omega) hw6]
        have e : fh_ld σ (2 + w) (nI d) = some (σ (2 + w) d) := by
          refine ld_ok (n := 10) ?_ (by omega) (by omega)
          rcases (show w = 0 ∨ w = 1 ∨ w = 2 ∨ w = 3 ∨ w = 4 ∨ w = 5 by omega) with rfl | rfl | rfl | rfl | rfl | rfl <;> rfl
        rw [e, bd_s, show σ (2 + w) d = A 45 (13 + 6 * d + w) from by have := hC.1.2.2.2.2 w hw6 d (by omega); rw [show 1 + 1 + w = 2 + w by omega] at this; exact this, hR.1]
        exact ⟨_, A, hA.mono (by omega), ⟨σ, rfl, hC, fun _ _ => rfl⟩, ⟨τ, rfl, hR, fun _ _ => rfl⟩⟩
