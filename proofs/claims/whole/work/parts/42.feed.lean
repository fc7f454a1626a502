/-! ===== feed ===== -/
def by_ (a : Int32) (k : Nat) : Int32 := (a >>> ((8 * nI k) &&& 31)) &&& 255
theorem by_lt (y : Int32) : ∃ b, b < 256 ∧ y &&& 255 = nI b := by
  refine ⟨(y &&& 255).toBitVec.toNat, ?_, ?_⟩
  · rw [Int32.toBitVec_and, BitVec.toNat_and]
    have : y.toBitVec.toNat &&& (255 : Int32).toBitVec.toNat ≤ (255 : Int32).toBitVec.toNat := Nat.and_le_right
    have e : (255 : Int32).toBitVec.toNat = 255 := rfl
    omega
  · apply Int32.toBitVec_inj.mp
    unfold nI
    rw [Int32.toBitVec_ofNat', BitVec.ofNat_toNat, BitVec.setWidth_eq]
theorem by_bv (x : BitVec 32) (n : Nat) (hn : n ≤ 24) : (x >>> n) &&& 255#32 = (x.sshiftRight n) &&& 255#32 := by
  apply BitVec.eq_of_getLsbD_eq
  intro i hi
  rw [BitVec.getLsbD_and, BitVec.getLsbD_and]
  by_cases h : i < 8
  · congr 1
    rw [BitVec.getLsbD_ushiftRight, BitVec.getLsbD_sshiftRight]
    have h1 : n + i < 32 := by omega
    have h2 : ¬ 32 ≤ i := by omega
    simp [h1, h2]
  · have : (255#32).getLsbD i = false := by
      have h3 : i ∈ List.range 32 := List.mem_range.mpr hi
      have : ∀ i, i < 32 → ¬ i < 8 → (255#32).getLsbD i = false := by decide
      exact this i hi h
    rw [this, Bool.and_false, Bool.and_false]
theorem by_eq (a : Int32) {k : Nat} (hk : k < 4) : ((a.toUInt32 >>> ((8 * nI k).toUInt32 &&& Int32.toUInt32 31)).toInt32 &&& 255) = by_ a k := by
  unfold by_
  apply Int32.toBitVec_inj.mp
  have : k = 0 ∨ k = 1 ∨ k = 2 ∨ k = 3 := by omega
  rcases this with rfl | rfl | rfl | rfl
  · exact by_bv a.toBitVec 0 (by omega)
  · exact by_bv a.toBitVec 8 (by omega)
  · exact by_bv a.toBitVec 16 (by omega)
  · exact by_bv a.toBitVec 24 (by omega)
def fA (a : Int32) : Nat → Nat → fh_S → fh_S
  | 0, _, A => A
  | k + 1, l, A => fA a k (l + 1) (fs (fs A 50 l (by_ a k)) 44 7 (nI (l + 1)))
theorem CR.byt {σ A : fh_S} {l : Nat} {v : Int32} (h : CR σ A) : CR (fs σ 32 l v) (fs A 50 l v) := by
  obtain ⟨h1, h2, h3, h4, h5, h6, h7⟩ := h
  unfold CR
  rw [fs_o (σ := A) (show 45 ≠ 50 by omega), fs_o (σ := A) (show 46 ≠ 50 by omega), fs_o (σ := A) (show 48 ≠ 50 by omega), fs_o (σ := A) (show 44 ≠ 50 by omega), fs_o (σ := A) (show 53 ≠ 50 by omega), fs_o (σ := A) (show 54 ≠ 50 by omega), fs_o (σ := A) (show 55 ≠ 50 by omega)]
  refine ⟨h1.mv (fun k _ _ => fs_o (by omega)), fun e => (h2 e).mv (fun k _ _ => fs_o (by omega)), by rw [fs_o (by omega)]; exact h3, fun j hj => by rw [fs_o (by omega)]; exact h4 j hj, by rw [fs_o (by omega)]; exact h5, fun j hj => ?_, fun s hs => ?_⟩
  · rw [fs_at, fs_at, if_pos rfl, if_pos rfl, h6 j hj]
  · rw [fs_o (show 35 + 2 * s ≠ 32 by omega), fs_o (show 36 + 2 * s ≠ 32 by omega)]
    exact h7 s hs
theorem RR.byt {σ A : fh_S} {l : Nat} {v : Int32} (h : RR σ A) : RR (fs σ 50 l v) (fs A 50 l v) := by
  obtain ⟨h1, h2, h3, h4, h5, h6, h7, h8, h9⟩ := h
  unfold RR
  simp only [fs_o (show 45 ≠ 50 by omega), fs_o (show 46 ≠ 50 by omega), fs_o (show 48 ≠ 50 by omega), fs_o (show 44 ≠ 50 by omega), fs_o (show 53 ≠ 50 by omega), fs_o (show 54 ≠ 50 by omega), fs_o (show 55 ≠ 50 by omega)]
  refine ⟨h1, h2, h3, h4, h5, ?_, h7, h8, h9⟩
  funext j
  rw [fs_at, fs_at, if_pos rfl, if_pos rfl, h6]
theorem AI.byt {A : fh_S} {N l b : Nat} (h : AI A N) (hb : b < 256) : AI (fs A 50 l (nI b)) N := by
  obtain ⟨h1, h2, h3, h4, h5, h6⟩ := h
  unfold AI
  simp only [fs_o (show 45 ≠ 50 by omega), fs_o (show 46 ≠ 50 by omega), fs_o (show 48 ≠ 50 by omega), fs_o (show 44 ≠ 50 by omega), fs_o (show 53 ≠ 50 by omega), fs_o (show 54 ≠ 50 by omega)]
  refine ⟨h1, h2, h3, fun j hj => ?_, h5, h6⟩
  rw [fs_at, if_pos rfl]
  split
  · exact ⟨b, hb, rfl⟩
  · exact h4 j hj
theorem AI.len' {A : fh_S} {N l : Nat} (h : AI A N) (hl : l ≤ 120) : AI (fs A 44 7 (nI l)) N := by
  obtain ⟨h1, h2, h3, h4, h5, h6⟩ := h
  unfold AI
  simp only [fs_o (show 45 ≠ 44 by omega), fs_o (show 46 ≠ 44 by omega), fs_o (show 48 ≠ 44 by omega), fs_o (show 50 ≠ 44 by omega), fs_o (show 53 ≠ 44 by omega), fs_o (show 54 ≠ 44 by omega), fs_ne (show 3 ≠ 7 by omega), fs_s]
  exact ⟨h1, h2, ⟨l, hl, rfl⟩, h4, h5, h6⟩
theorem fA_ok {a : Int32} {N : Nat} : ∀ (k l : Nat) (A : fh_S), l + k ≤ 120 → AI A N → AI (fA a k l A) N := by
  intro k
  induction k with
  | zero => intro l A _ h; exact h
  | succ k ih =>
    intro l A hl h
    unfold fA
    obtain ⟨b, hb, eb⟩ := by_lt (a >>> ((8 * nI k) &&& 31))
    have eb' : by_ a k = nI b := eb
    rw [eb']
    exact ih (l + 1) _ (by omega) ((h.byt hb).len' (by omega))
theorem m1_s {k : Nat} (hk : k < 10) : nI (k + 1) - 1 = nI k ∧ nI k + (-1) = nI k - 1 := by
  have : ∀ k, k < 10 → nI (k + 1) - 1 = nI k ∧ nI k + (-1) = nI k - 1 := by decide
  exact this k hk
theorem c_feedL {a : Int32} : ∀ (k l : Nat) (A σ : fh_S), l + k ≤ 120 → k ≤ 4 → A 44 7 = nI l → CR σ A → ∀ fu : Nat, k < fu →
    cE (fh_fx (ρ := Int32 → fh_S → Option (Int32 × fh_S)) (fun _ _ => none) (f_X4_feed_B41 0 a) fu (nI k - 1) σ) σ (fA a k l A) (nI (l + k)) := by
  intro k
  induction k with
  | zero =>
    intro l A σ hl hk e hC fu hfu
    obtain ⟨f, rfl⟩ : ∃ f, fu = f + 1 := ⟨fu - 1, by omega⟩
    rw [fx_s, e_X4_feed_B41, if_pos (show nI 0 - 1 < 0 by decide), gr_0_3, bd_s, gi_31_1, bd_s, hC.2.2.2.2.1, e]
    exact ⟨σ, rfl, hC, fun _ _ => rfl⟩
  | succ k ih =>
    intro l A σ hl hk e hC fu hfu
    obtain ⟨f, rfl⟩ : ∃ f, fu = f + 1 := ⟨fu - 1, by omega⟩
    obtain ⟨m1, m2⟩ := m1_s (k := k) (by omega)
    have hl' : σ 31 1 = nI l := by rw [hC.2.2.2.2.1, e]
    have ea : f_X3_append 31 (by_ a k) σ = some ((), fs (fs σ 32 l (by_ a k)) 31 1 (nI (l + 1))) := by
      unfold f_X3_append
      rw [ob_T, gi_31_1, bd_s, hl', show (120 : Int32) = nI 120 from rfl, if_neg (nI_ge (by omega) (by omega)), gr_31_0, bd_s, bd_s, st_32 (by omega), bd_s, gi_31_1, bd_s, pf_31_1, bd_s, fs_o (show 31 ≠ 32 by omega), hl', nI_1]
    rw [fx_s, e_X4_feed_B41, m1, if_neg (show ¬ nI k < 0 from nI_nlt (b := 0) (by omega) (by omega)), gr_0_3, bd_s, by_eq a (by omega), ea, fh_cb_s, m2]
    unfold fA
    rw [show l + (k + 1) = l + 1 + k by omega]
    refine (ih (l + 1) _ _ (by omega) (by omega) fs_s hC.byt.len f (by omega)).bk (fun k hk => ?_)
    rw [fs_o (by omega), fs_o (by omega)]
theorem r_feedL {a : Int32} : ∀ (k l : Nat) (A σ : fh_S), l + k ≤ 120 → k ≤ 4 → A 44 7 = nI l → RR σ A → ∀ fu : Nat, k < fu →
    rE (fh_fx (ρ := Int32 → fh_S → Option (Int32 × fh_S)) (fun _ _ => none) (f_X5_feed_B38 44 a) fu (nI k - 1) σ) σ (fA a k l A) (nI (l + k)) := by
  intro k
  induction k with
  | zero =>
    intro l A σ hl hk e hR fu hfu
    obtain ⟨f, rfl⟩ : ∃ f, fu = f + 1 := ⟨fu - 1, by omega⟩
    rw [fx_s, e_X5_feed_B38, if_pos (show nI 0 - 1 < 0 by decide), gi_44_7, bd_s, hR.2.2.2.2.1, e]
    exact ⟨σ, rfl, hR, fun _ _ => rfl⟩
  | succ k ih =>
    intro l A σ hl hk e hR fu hfu
    obtain ⟨f, rfl⟩ : ∃ f, fu = f + 1 := ⟨fu - 1, by omega⟩
    obtain ⟨m1, m2⟩ := m1_s (k := k) (by omega)
    have hl' : σ 44 7 = nI l := by rw [hR.2.2.2.2.1, e]
    rw [fx_s, e_X5_feed_B38, m1, if_neg (show ¬ nI k < 0 from nI_nlt (b := 0) (by omega) (by omega)), gr_44_6, bd_s, gi_44_7, bd_s, hl', st_50 (by omega), bd_s, gi_44_7, bd_s, pf_44_7, bd_s, fs_o (show 44 ≠ 50 by omega), hl', nI_1, m2]
    unfold fA
    rw [show l + (k + 1) = l + 1 + k by omega]
    refine (ih (l + 1) _ _ (by omega) (by omega) fs_s hR.byt.len f (by omega)).bk (fun k hk => ?_)
    rw [fs_o (by omega), fs_o (by omega)]
theorem s_feed (a b : Int32) : fh_Stp (f_X4_feed 0 a b) (f_X5_feed 44 a b) := by
  apply fh_Stp.mk
  intro N A σ τ hN hA hC hR
  obtain ⟨l, hl, el⟩ := hA.2.2.1
  unfold f_X4_feed f_X5_feed
  rw [ob_H, ob_M, c_isWithin, fh_cb_s, r_within, fh_cb_s]
  rcases wb_or b 1 4 with q | ⟨q, -⟩
  · rw [q, if_pos rfl, if_pos rfl, cb_id, cb_id]
    exact ⟨_, _, hA.tell (by omega), c_tell0 hC, r_find0 hR⟩
  · obtain ⟨k, hk1, hk, rfl⟩ := wb_1h (a := b) (h := 4) (by omega) q
    rw [q, if_neg ne01, if_neg ne01, gr_0_3, bd_s, gi_31_1, bd_s, gi_44_7, bd_s, hC.2.2.2.2.1, hR.2.2.2.2.1, el, show (120 : Int32) = nI 120 from rfl, pk_sub (by omega), nI_add]
    by_cases w : l + k ≤ 120
    · rw [if_pos (nI_le (by omega) (by omega)), if_pos (nI_le (by omega) (by omega))]
      exact ⟨_, fA a k l A, (fA_ok k l A w hA).mono (by omega), c_feedL k l A σ w hk el hC fh_fu (by unfold fh_fu; omega), r_feedL k l A τ w hk el hR fh_fu (by unfold fh_fu; omega)⟩
    · rw [if_neg (nI_ge (by omega) (by omega)), if_neg (nI_ge (by omega) (by omega)), cb_id, cb_id]
      exact ⟨_, _, hA.tell (by omega), c_tell1 hC, r_find1 hR⟩
