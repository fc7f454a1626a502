/-! ===== kindFor, masterFor ===== -/
theorem row_row {A : fh_S} {k : Nat} {f g : fh_Rw} : fh_row (fh_row A k f) k g = fh_row A k g := by
  funext a
  unfold fh_row
  split <;> rfl
theorem row_id {A : fh_S} {k : Nat} : fh_row A k (A k) = A := by
  funext a
  unfold fh_row
  split
  · rename_i h; rw [h]
  · rfl
theorem upd_upd {f : fh_Rw} {k : Nat} {x y : Int32} : upd (upd f k x) k y = upd f k y := by
  funext j
  unfold upd
  split <;> rfl
theorem RR.st {σ A : fh_S} (h : RR σ A) (j : Nat) (v : Int32) : RR (fs σ 45 j v) (fh_row A 45 (upd (A 45) j v)) := h.now (by rw [fs_row, h.1]) (fun k _ h _ _ _ _ => fs_o h)
def fr_ (n d : Nat) : Nat → fh_Rw → Int32 → Int32
  | 0, _, acc => acc
  | k + 1, ρ, acc => fr_ n d k (tk_ n ρ) (acc + ab_ (tk_ n ρ (13 + 6 * d + 3)))
theorem c_distL {n d a : Nat} {A : fh_S} (hd : d < 10) (ha : a ≤ 200) : ∀ (k i T : Nat), i + k = a → T + k < 99990 → ∀ fu : Nat, k < fu → ∀ (acc : Int32) (σ : fh_S) (ρ : fh_Rw), CR σ A → GR 21 σ ρ → RI ρ n T →
    ∃ σ', fh_fx (ρ := Int32 → Int32 → fh_S → Option (Int32 × fh_S)) (fun _ _ _ => none) (f_X4_distanceAs_B27 (nI a) 0 (nI d)) fu acc (nI i) σ = some (fr_ n d k ρ acc, σ') ∧ CR σ' A ∧ ∀ b, ¬ (21 ≤ b ∧ b < 31) → σ' b = σ b := by
  intro k
  induction k with
  | zero =>
    intro i T hi hT fu hfu acc σ ρ hC hG hI
    obtain ⟨f, rfl⟩ : ∃ f, fu = f + 1 := ⟨fu - 1, by omega⟩
    rw [fx_s, e_X4_distanceAs_B27, if_pos (nI_le (by omega) (by omega))]
    exact ⟨σ, rfl, hC, fun _ _ => rfl⟩
  | succ k ih =>
    intro i T hi hT fu hfu acc σ ρ hC hG hI
    obtain ⟨f, rfl⟩ : ∃ f, fu = f + 1 := ⟨fu - 1, by omega⟩
    obtain ⟨σ1, e1, g1, k1⟩ := c_tick fhG21 hG hI (by omega)
    rw [fx_s, e_X4_distanceAs_B27, if_neg (nI_ge (by omega) (by omega)), gr_0_2, bd_s, e1, fh_cb_s]
    simp only [bd_s, gr_G3 fhG21, ld_G4 fhG21 hd, g1.f3 hd, j_abs, fh_cb_s, nI_1]
    obtain ⟨σ2, e2, c2, k2⟩ := ih (i + 1) (T + 1) (by omega) (by omega) f (by omega) (acc + ab_ (tk_ n ρ (13 + 6 * d + 3))) σ1 _ (hC.mv (fun b _ hb _ => k1 b hb)) g1 hI.tick
    exact ⟨σ2, e2, c2, fun b hb => by rw [k2 b hb]; exact k1 b hb⟩
theorem r_farL {n d a : Nat} {A : fh_S} (hd : d < 10) (ha : a ≤ 200) : ∀ (k i T : Nat), i + k = a → ∀ fu : Nat, k < fu → ∀ (acc : Int32) (σ : fh_S), RB σ A → RI (σ 45) n T →
    rE (fh_fx (ρ := Int32 → Int32 → fh_S → Option (Int32 × fh_S)) (fun _ _ _ => none) (f_X5_farIn_B16 (nI a) 44 (nI d)) fu acc (nI i) σ) σ A (fr_ n d k (σ 45) acc) := by
  intro k
  induction k with
  | zero =>
    intro i T hi fu hfu acc σ hB hI
    obtain ⟨f, rfl⟩ : ∃ f, fu = f + 1 := ⟨fu - 1, by omega⟩
    rw [fx_s, e_X5_farIn_B16, if_pos (nI_le (by omega) (by omega)), cb_id]
    exact r_putBack hB
  | succ k ih =>
    intro i T hi fu hfu acc σ hB hI
    obtain ⟨f, rfl⟩ : ∃ f, fu = f + 1 := ⟨fu - 1, by omega⟩
    obtain ⟨σ1, e1, g1, k1⟩ := r_tick hI
    rw [fx_s, e_X5_farIn_B16, if_neg (nI_ge (by omega) (by omega)), e1, fh_cb_s, r_is3 hd, fh_cb_s, j_abs, fh_cb_s, nI_1]
    have := ih (i + 1) (T + 1) (by omega) f (by omega) (acc + ab_ (σ1 45 (13 + 6 * d + 3))) σ1 (hB.ticked (k := 1) hI.1 g1 k1) (by rw [g1]; exact hI.tick)
    rw [show fr_ n d (k + 1) (σ 45) acc = fr_ n d k (σ1 45) (acc + ab_ (σ1 45 (13 + 6 * d + 3))) by rw [g1]; rfl]
    exact this.bk (fun k hk => k1 k (by omega) (by omega))
theorem r_farIn {n d a T : Nat} {σ A : fh_S} (hd : d < 10) (ha : a ≤ 200) (hR : RR σ A) (hI : RI (A 45) n T) : rE (f_X5_farIn 44 (nI d) (nI a) σ) σ A (fr_ n d a (A 45) 0) := by
  obtain ⟨σ1, e1, b1, q1, k1⟩ := r_aside hR
  unfold f_X5_farIn
  simp only [ob_M, gr_44_0, gr_44_2, bd_s]
  rw [e1, fh_cb_s]
  have := r_farL (n := n) hd ha a 0 T (by omega) fh_fu (by unfold fh_fu; omega) 0 σ1 b1 (by rw [q1, hR.1]; exact hI)
  rw [q1, hR.1] at this
  exact this.bk (fun k hk => k1 k (by omega))
theorem okK {n k : Nat} (h : k < 7) : okf n 0 (nI k) := ⟨fun _ => ⟨k, h, rfl⟩, by simp, by simp, by simp, by simp, by simp⟩
theorem okM {n k : Nat} (h : k < n) : okf n 2 (nI k) := ⟨by simp, by simp, fun _ => ⟨k, h, rfl⟩, by simp, by simp, by simp⟩
theorem c_dist {n d a T kd : Nat} {σ A : fh_S} (hd : d < n) (ha : a ≤ 200) (hT : T < 99000) (hk : kd < 7) (hC : CR σ A) (hI : RI (A 45) n T) : ∃ σ', f_X4_distanceAs 0 (nI d) (nI kd) (nI a) σ = some (fr_ n d a (upd (A 45) (13 + 6 * d + 0) (nI kd)) 0, σ') ∧ CR σ' A ∧ ∀ b, ¬ (21 ≤ b ∧ b < 31) → σ' b = σ b := by
  have hn := hI.1
  have hd10 : d < 10 := by omega
  obtain ⟨σ1, e1, g1, c1, k1⟩ := c_try hC
  unfold f_X4_distanceAs
  simp only [ob_H, gr_0_2, gr_0_0, bd_s]
  rw [e1, fh_cb_s]
  simp only [gr_G0 fhG21, bd_s, st_G1 fhG21 hd10]
  obtain ⟨σ2, e2, c2, k2⟩ := c_distL (n := n) (A := A) hd10 ha a 0 T (by omega) (by omega) fh_fu (by unfold fh_fu; omega) 0 (fs σ1 22 d (nI kd)) (upd (A 45) (13 + 6 * d + 0) (nI kd)) (c1.mv (fun b _ hb _ => fs_o (by omega))) (g1.st (show 0 < 6 by omega) hd10 (nI kd)) (hI.set hd (by omega) (okK hk))
  exact ⟨σ2, e2, c2, fun b hb => by rw [k2 b hb, fs_o (by omega)]; exact k1 b hb⟩
def kf_ (F : Nat → Int32) : Nat → Nat → Int32 → Int32 → Int32
  | 0, _, b, _ => b
  | k + 1, i, b, m => if F i ≤ m then kf_ F k (i + 1) b m else kf_ F k (i + 1) (nI i) (F i)
theorem c_kindL {n d a T : Nat} {A : fh_S} (hd : d < n) (ha : a ≤ 200) (hT : T < 99000) (hI : RI (A 45) n T) : ∀ (k i : Nat), i + k = 7 → ∀ fu : Nat, k < fu → ∀ (b m : Int32) (σ : fh_S), CR σ A →
    ∃ σ', fh_fx (ρ := Int32 → Int32 → Int32 → fh_S → Option (Int32 × fh_S)) (fun _ _ _ _ => none) (f_X4_kindFor_B36 0 (nI d) (nI a)) fu b m (nI i) σ = some (kf_ (fun i => fr_ n d a (upd (A 45) (13 + 6 * d + 0) (nI i)) 0) k i b m, σ') ∧ CR σ' A ∧ ∀ b, ¬ (21 ≤ b ∧ b < 31) → σ' b = σ b := by
  intro k
  induction k with
  | zero =>
    intro i hi fu hfu b m σ hC
    obtain ⟨f, rfl⟩ : ∃ f, fu = f + 1 := ⟨fu - 1, by omega⟩
    rw [fx_s, e_X4_kindFor_B36, show (7 : Int32) = nI 7 from rfl, if_pos (nI_le (by omega) (by omega))]
    exact ⟨σ, rfl, hC, fun _ _ => rfl⟩
  | succ k ih =>
    intro i hi fu hfu b m σ hC
    obtain ⟨f, rfl⟩ : ∃ f, fu = f + 1 := ⟨fu - 1, by omega⟩
    obtain ⟨σ1, e1, c1, k1⟩ := c_dist hd ha hT (show i < 7 by omega) hC hI
    rw [fx_s, e_X4_kindFor_B36, show (7 : Int32) = nI 7 from rfl, if_neg (nI_ge (by omega) (by omega)), e1, fh_cb_s, jn_s]
    simp only [e_X4_kindFor_J69, nI_1]
    unfold kf_
    by_cases q : fr_ n d a (upd (A 45) (13 + 6 * d + 0) (nI i)) 0 ≤ m
    · rw [if_pos q, if_pos q]
      obtain ⟨σ2, e2, c2, k2⟩ := ih (i + 1) (by omega) f (by omega) b m σ1 c1
      exact ⟨σ2, e2, c2, fun b hb => by rw [k2 b hb]; exact k1 b hb⟩
    · rw [if_neg q, if_neg q]
      obtain ⟨σ2, e2, c2, k2⟩ := ih (i + 1) (by omega) f (by omega) (nI i) (fr_ n d a (upd (A 45) (13 + 6 * d + 0) (nI i)) 0) σ1 c1
      exact ⟨σ2, e2, c2, fun b hb => by rw [k2 b hb]; exact k1 b hb⟩
theorem r_kindL {n d a T : Nat} {A : fh_S} (hd : d < n) (ha : a ≤ 200) (hI : RI (A 45) n T) : ∀ (k i : Nat), i + k = 7 → ∀ fu : Nat, k < fu → ∀ (b m x : Int32) (σ : fh_S), RR σ (fh_row A 45 (upd (A 45) (13 + 6 * d + 0) x)) →
    rE (fh_fx (ρ := Int32 → Int32 → Int32 → fh_S → Option (Int32 × fh_S)) (fun _ _ _ _ => none) (f_X5_kindFor_B41 44 (nI d) (A 45 (13 + 6 * d + 0)) (nI a)) fu b m (nI i) σ) σ A (kf_ (fun i => fr_ n d a (upd (A 45) (13 + 6 * d + 0) (nI i)) 0) k i b m) := by
  have hn := hI.1
  have e0 : ∀ d : Nat, (13 : Int32) + 6 * nI d + 0 = nI (13 + 6 * d + 0) := at_0
  intro k
  induction k with
  | zero =>
    intro i hi fu hfu b m x σ hR
    obtain ⟨f, rfl⟩ : ∃ f, fu = f + 1 := ⟨fu - 1, by omega⟩
    rw [fx_s, e_X5_kindFor_B41, show (6 : Int32) = nI 6 from rfl, if_pos (nI_lt (by omega) (by omega))]
    unfold f_X5_at
    simp only [gr_44_0, bd_s, fh_cb_s, e0]
    rw [st_45 (by omega), bd_s]
    refine ⟨_, rfl, ?_, fun k hk => fs_o (by omega)⟩
    have := hR.st (13 + 6 * d + 0) (A 45 (13 + 6 * d + 0))
    rw [fh_row_s, row_row, upd_upd, upd_id rfl, row_id] at this
    exact this
  | succ k ih =>
    intro i hi fu hfu b m x σ hR
    obtain ⟨f, rfl⟩ : ∃ f, fu = f + 1 := ⟨fu - 1, by omega⟩
    rw [fx_s, e_X5_kindFor_B41, show (6 : Int32) = nI 6 from rfl, if_neg (nI_nlt (by omega) (by omega))]
    unfold f_X5_at
    simp only [gr_44_0, bd_s, fh_cb_s, e0]
    rw [st_45 (by omega), bd_s]
    have hR1 := hR.st (13 + 6 * d + 0) (nI i)
    rw [fh_row_s, row_row, upd_upd] at hR1
    obtain ⟨σ1, e1, r1, k1⟩ := r_farIn (n := n) (show d < 10 by omega) ha hR1 (by rw [fh_row_s]; exact hI.set hd (by omega) (okK (show i < 7 by omega)))
    rw [fh_row_s] at e1
    rw [e1, fh_cb_s, jn_s]
    have kk : ∀ k, k < 44 → σ1 k = σ k := fun k hk => by rw [k1 k hk, fs_o (by omega)]
    simp only [e_X5_kindFor_J82, j_max, fh_cb_s, nI_1]
    unfold kf_ mx_
    by_cases q : fr_ n d a (upd (A 45) (13 + 6 * d + 0) (nI i)) 0 ≤ m
    · rw [if_pos q, if_pos q, if_neg (Int32.not_lt.mpr q)]
      exact (ih (i + 1) (by omega) f (by omega) b m _ σ1 r1).bk kk
    · rw [if_neg q, if_neg q, if_pos (Int32.not_le.mp q)]
      exact (ih (i + 1) (by omega) f (by omega) (nI i) _ _ σ1 r1).bk kk
theorem wb_1h {a : Int32} {h : Nat} (hh : h < 1000000) (e : wb a 1 (nI h) = 1) : ∃ j, 1 ≤ j ∧ j ≤ h ∧ a = nI j := by
  rcases wb_or a 1 (nI h) with q | ⟨-, q1, q2⟩
  · rw [q] at e; cases e
  · have z2 := Int32.le_iff_toInt_le.mp q1
    rw [show (1 : Int32).toInt = 1 from rfl] at z2
    obtain ⟨j, hj, e⟩ := nI_of2 (nI_toInt (show h < 2 ^ 31 by omega)) (show ¬ a < 0 by
      intro z
      have z1 := Int32.lt_iff_toInt_lt.mp z
      rw [i_0] at z1
      omega) q2
    refine ⟨j, ?_, hj, e⟩
    rw [e, nI_toInt (by omega)] at z2
    omega
theorem s_kindFor (a b : Int32) : fh_Stp (f_X4_kindFor 0 a b) (f_X5_kindFor 44 a b) := by
  apply fh_Stp.mk
  intro N A σ τ hN hA hC hR
  obtain ⟨n, hI⟩ := hA.1
  have hn := hI.1
  have hIt : RI (τ 45) n (100 * N) := by rw [hR.1]; exact hI
  have hsz : σ 1 9 = nI n := by rw [hC.1.1]; exact hI.2.1
  unfold f_X4_kindFor f_X5_kindFor
  simp only [ob_H, ob_M, gr_0_0, bd_s, r_isDial (show n ≤ 1000 by omega) hIt.2.1, c_has fhG1 hsz, c_isWithin, r_within, fh_cb_s, cb_id, jn_s, e_X5_kindFor_J18, e_X4_kindFor_J21]
  rcases db_or a (show n ≤ 1000 by omega) with h | ⟨h, d, hd, rfl⟩
  · rw [h]
    simp only [if_true]
    exact ⟨_, _, hA.tell (by omega), c_tell0 hC, r_find0 hR⟩
  · rw [h]
    simp only [ne01, if_false]
    rcases wb_or b 1 100 with q | ⟨q, -⟩
    · rw [q]
      simp only [if_true]
      exact ⟨_, _, hA.tell (by omega), c_tell0 hC, r_find0 hR⟩
    · obtain ⟨k, hk1, hk, rfl⟩ := wb_1h (a := b) (h := 100) (by omega) q
      rw [q]
      simp only [ne01, if_false]
      rw [r_is0 (by omega), fh_cb_s, hR.1]
      obtain ⟨σ1, e1, c1, k1⟩ := c_kindL hd (show k ≤ 200 by omega) (show 100 * N < 99000 by omega) hI 7 0 (by omega) fh_fu (by unfold fh_fu; omega) 0 (-1) σ hC
      have hr := r_kindL hd (show k ≤ 200 by omega) hI 7 0 (by omega) fh_fu (by unfold fh_fu; omega) 0 (-1) (A 45 (13 + 6 * d + 0)) τ (by rw [upd_id rfl, row_id]; exact hR)
      exact ⟨_, A, hA.mono (by omega), ⟨σ1, e1, c1, fun k hk => k1 k (by omega)⟩, hr⟩
/-! masterFor -/
def hb_ (x h : Int32) : Int32 := mn_ (rd_ (h - x)) (720 - rd_ (h - x))
theorem c_between {x h : Nat} {σ : fh_S} (hx : x < 720) (hh : h < 720) : f_X4_hoursBetween (nI x) (nI h) σ = some (hb_ (nI x) (nI h), σ) := by
  unfold f_X4_hoursBetween hb_
  simp only [c_round, fh_cb_s, j_min]
  obtain ⟨r, hr, er, q, eq⟩ := rd_i (nI x - nI h)
  obtain ⟨r', hr', er', q', eq'⟩ := rd_i (nI h - nI x)
  rw [pk_sub_toInt (by omega) (by omega)] at eq eq'
  rw [er, er', show (720 : Int32) = nI 720 from rfl, pk_sub (by omega), pk_sub (by omega)]
  congr 2
  apply Int32.toInt_inj.mp
  rw [mn_i, mn_i, nI_toInt (by omega), nI_toInt (by omega), nI_toInt (by omega), nI_toInt (by omega)]
  omega
def mf_ (F : Nat → Int32) : Nat → Nat → Int32 → Int32 → Int32
  | 0, _, b, _ => b
  | k + 1, i, b, m => if m ≤ F i then mf_ F k (i + 1) b m else mf_ F k (i + 1) (nI i) (F i)
theorem c_mastL {n d a h T : Nat} {A : fh_S} (hd : d < n) (ha : a ≤ 200) (hh : h < 720) (hT : T < 99000) (hI : RI (A 45) n T) : ∀ (k i : Nat), i + k = n → ∀ fu : Nat, k < fu → ∀ (b m : Int32) (σ : fh_S), CR σ A →
    ∃ σ', fh_fx (ρ := Int32 → Int32 → Int32 → fh_S → Option (Int32 × fh_S)) (fun _ _ _ _ => none) (f_X4_masterFor_B46 0 (nI d) (nI a) (nI h)) fu b m (nI i) σ = some (mf_ (fun i => hb_ (tN_ n a (upd (A 45) (13 + 6 * d + 2) (nI i)) (13 + 6 * d + 1)) (nI h)) k i b m, σ') ∧ CR σ' A ∧ ∀ b, ¬ (21 ≤ b ∧ b < 31) → σ' b = σ b := by
  have hn := hI.1
  have hd10 : d < 10 := by omega
  intro k
  induction k with
  | zero =>
    intro i hi fu hfu b m σ hC
    obtain ⟨f, rfl⟩ : ∃ f, fu = f + 1 := ⟨fu - 1, by omega⟩
    have hsz : σ 1 9 = nI n := by rw [hC.1.1]; exact hI.2.1
    rw [fx_s, e_X4_masterFor_B46]
    simp only [gr_0_0, bd_s, gi_G9 fhG1, hsz]
    rw [if_pos (nI_le (by omega) (by omega))]
    exact ⟨σ, rfl, hC, fun _ _ => rfl⟩
  | succ k ih =>
    intro i hi fu hfu b m σ hC
    obtain ⟨f, rfl⟩ : ∃ f, fu = f + 1 := ⟨fu - 1, by omega⟩
    have hsz : σ 1 9 = nI n := by rw [hC.1.1]; exact hI.2.1
    obtain ⟨σ1, e1, g1, c1, k1⟩ := c_try hC
    have hI2 := hI.set hd (show 2 < 6 by omega) (okM (show i < n by omega))
    obtain ⟨σ2, e2, g2, k2⟩ := c_ticks fhG21 (g1.st (show 2 < 6 by omega) hd10 (nI i)) hI2 ha hT
    obtain ⟨x, hx, ex⟩ := (hI2.ticks a T).hour hd
    have c2 : CR σ2 A := c1.mv (fun b _ hb _ => by rw [k2 b hb, fs_o (by omega)])
    rw [fx_s, e_X4_masterFor_B46]
    simp only [gr_0_0, gr_0_2, bd_s, gi_G9 fhG1, hsz]
    rw [if_neg (nI_ge (by omega) (by omega)), e1, fh_cb_s]
    simp only [gr_G2 fhG21, bd_s, st_G3 fhG21 hd10]
    rw [show fs σ1 (21 + 3) d (nI i) = fs σ1 (21 + 1 + 2) d (nI i) from rfl, e2, fh_cb_s]
    simp only [gr_G1 fhG21, bd_s, ld_G2 fhG21 hd10, g2.f1 hd10]
    rw [ex, c_between hx hh, fh_cb_s, jn_s]
    simp only [e_X4_masterFor_J118, nI_1]
    unfold mf_
    rw [ex]
    have kk : ∀ b, ¬ (21 ≤ b ∧ b < 31) → σ2 b = σ b := fun b hb => by rw [k2 b hb, fs_o (by omega)]; exact k1 b hb
    by_cases q : m ≤ hb_ (nI x) (nI h)
    · rw [if_pos q, if_pos q]
      obtain ⟨σ3, e3, c3, k3⟩ := ih (i + 1) (by omega) f (by omega) b m σ2 c2
      exact ⟨σ3, e3, c3, fun b hb => by rw [k3 b hb]; exact kk b hb⟩
    · rw [if_neg q, if_neg q]
      obtain ⟨σ3, e3, c3, k3⟩ := ih (i + 1) (by omega) f (by omega) (nI i) (hb_ (nI x) (nI h)) σ2 c2
      exact ⟨σ3, e3, c3, fun b hb => by rw [k3 b hb]; exact kk b hb⟩
theorem r_mastL {n d a h T : Nat} {A : fh_S} (hd : d < n) (ha : a ≤ 200) (hI : RI (A 45) n T) : ∀ (k i : Nat), i + k = n → ∀ fu : Nat, k < fu → ∀ (b m x : Int32) (σ : fh_S), RR σ (fh_row A 45 (upd (A 45) (13 + 6 * d + 2) x)) →
    rE (fh_fx (ρ := Int32 → Int32 → Int32 → fh_S → Option (Int32 × fh_S)) (fun _ _ _ _ => none) (f_X5_masterFor_B51 44 (nI d) (A 45 (13 + 6 * d + 2)) (nI a) (nI h)) fu b m (nI i) σ) σ A (mf_ (fun i => hb_ (tN_ n a (upd (A 45) (13 + 6 * d + 2) (nI i)) (13 + 6 * d + 1)) (nI h)) k i b m) := by
  have hn := hI.1
  intro k
  induction k with
  | zero =>
    intro i hi fu hfu b m x σ hR
    obtain ⟨f, rfl⟩ : ∃ f, fu = f + 1 := ⟨fu - 1, by omega⟩
    have hsz : σ 45 1 = nI n := by rw [hR.1, fh_row_s, pk_un (by omega)]; exact hI.2.1
    rw [fx_s, e_X5_masterFor_B51]
    unfold f_X5_at
    simp only [gr_44_0, bd_s, ld_45_1, hsz, fh_cb_s, at_2]
    rw [if_pos (nI_le (by omega) (by omega)), st_45 (by omega), bd_s]
    refine ⟨_, rfl, ?_, fun k hk => fs_o (by omega)⟩
    have := hR.st (13 + 6 * d + 2) (A 45 (13 + 6 * d + 2))
    rw [fh_row_s, row_row, upd_upd, upd_id rfl, row_id] at this
    exact this
  | succ k ih =>
    intro i hi fu hfu b m x σ hR
    obtain ⟨f, rfl⟩ : ∃ f, fu = f + 1 := ⟨fu - 1, by omega⟩
    have hsz : σ 45 1 = nI n := by rw [hR.1, fh_row_s, pk_un (by omega)]; exact hI.2.1
    rw [fx_s, e_X5_masterFor_B51]
    unfold f_X5_at
    simp only [gr_44_0, bd_s, ld_45_1, hsz, fh_cb_s, at_2]
    rw [if_neg (nI_ge (by omega) (by omega)), st_45 (by omega), bd_s]
    have hR1 := hR.st (13 + 6 * d + 2) (nI i)
    rw [fh_row_s, row_row, upd_upd] at hR1
    obtain ⟨σ1, e1, r1, k1⟩ := r_behind (n := n) (T := T) hR1 (by rw [fh_row_s]; exact hI.set hd (by omega) (okM (show i < n by omega))) (show d < 10 by omega) (show 1 < 6 by omega) ha
    rw [fh_row_s] at e1
    rw [show (1 : Int32) = nI 1 from rfl, e1, fh_cb_s, r_round, fh_cb_s, j_min, fh_cb_s, jn_s]
    have kk : ∀ k, k < 44 → σ1 k = σ k := fun k hk => by rw [k1 k hk, fs_o (by omega)]
    simp only [e_X5_masterFor_J115, j_min, fh_cb_s, nI_1]
    unfold mf_
    show rE (if m ≤ hb_ (tN_ n a (upd (A 45) (13 + 6 * d + 2) (nI i)) (13 + 6 * d + 1)) (nI h) then _ else _) σ A _
    generalize hF : hb_ (tN_ n a (upd (A 45) (13 + 6 * d + 2) (nI i)) (13 + 6 * d + 1)) (nI h) = F
    have hF' : mn_ (rd_ (nI h - tN_ n a (upd (A 45) (13 + 6 * d + 2) (nI i)) (13 + 6 * d + 1))) (720 - rd_ (nI h - tN_ n a (upd (A 45) (13 + 6 * d + 2) (nI i)) (13 + 6 * d + 1))) = F := hF
    rw [hF']
    unfold mn_
    by_cases q : m ≤ F
    · rw [if_pos q, if_pos q, if_neg (Int32.not_lt.mpr q)]
      exact (ih (i + 1) (by omega) f (by omega) b m _ σ1 r1).bk kk
    · rw [if_neg q, if_neg q, if_pos (Int32.not_le.mp q)]
      exact (ih (i + 1) (by omega) f (by omega) (nI i) _ _ σ1 r1).bk kk
theorem s_masterFor (a b c : Int32) : fh_Stp (f_X4_masterFor 0 a b c) (f_X5_masterFor 44 a b c) := by
  apply fh_Stp.mk
  intro N A σ τ hN hA hC hR
  obtain ⟨n, hI⟩ := hA.1
  have hn := hI.1
  have hIt : RI (τ 45) n (100 * N) := by rw [hR.1]; exact hI
  have hsz : σ 1 9 = nI n := by rw [hC.1.1]; exact hI.2.1
  unfold f_X4_masterFor f_X5_masterFor
  simp only [ob_H, ob_M, gr_0_0, bd_s, r_isDial (show n ≤ 1000 by omega) hIt.2.1, c_has fhG1 hsz, c_isHour, r_isHour, c_isWithin, r_within, fh_cb_s, cb_id, jn_s, e_X5_masterFor_J25, e_X4_masterFor_J28]
  rcases db_or a (show n ≤ 1000 by omega) with h | ⟨h, d, hd, rfl⟩
  · rw [h]
    simp only [if_true]
    exact ⟨_, _, hA.tell (by omega), c_tell0 hC, r_find0 hR⟩
  · rw [h]
    simp only [ne01, if_false]
    rcases wb_or b 0 719 with q | ⟨q, -⟩
    · rw [q]
      simp only [if_true]
      exact ⟨_, _, hA.tell (by omega), c_tell0 hC, r_find0 hR⟩
    · obtain ⟨hh, hhh, rfl⟩ := wb_nI (a := b) (h := 719) (by omega) q
      rw [q]
      simp only [ne01, if_false]
      rcases wb_or c 0 100 with q' | ⟨q', -⟩
      · rw [q']
        simp only [if_true]
        exact ⟨_, _, hA.tell (by omega), c_tell0 hC, r_find0 hR⟩
      · obtain ⟨k, hk, rfl⟩ := wb_nI (a := c) (h := 100) (by omega) q'
        rw [q']
        simp only [ne01, if_false]
        rw [r_is2 (by omega), fh_cb_s, hR.1]
        obtain ⟨σ1, e1, c1, k1⟩ := c_mastL hd (show k ≤ 200 by omega) (show hh < 720 by omega) (show 100 * N < 99000 by omega) hI n 0 (by omega) fh_fu (by unfold fh_fu; omega) 0 720 σ hC
        have hr := r_mastL (h := hh) hd (show k ≤ 200 by omega) hI n 0 (by omega) fh_fu (by unfold fh_fu; omega) 0 720 (A 45 (13 + 6 * d + 2)) τ (by rw [upd_id rfl, row_id]; exact hR)
        exact ⟨_, A, hA.mono (by omega), ⟨σ1, e1, c1, fun k hk => k1 k (by omega)⟩, hr⟩
