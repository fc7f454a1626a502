/-! ===== the first state ===== -/
def z_now : fh_Rw := (upd (upd (upd (upd (upd (upd (upd (upd (upd (upd (upd (fun _ => 0) 2 1) 3 (-1)) 4 (-1)) 5 (-1)) 6 (-1)) 7 (-1)) 8 (-1)) 9 (-1)) 10 (-1)) 11 (-1)) 12 (-1))
def z_sp : fh_Rw := (upd (upd (upd (upd (upd (upd (upd (upd (upd (upd (fun _ => 0) 0 (-1)) 1 (-1)) 2 (-1)) 3 (-1)) 4 (-1)) 5 (-1)) 6 (-1)) 7 (-1)) 8 (-1)) 9 (-1))
def z_0 : fh_S := fun k => if k = 45 then z_now else if k = 1 ∨ k = 11 ∨ k = 21 then (fun j => if j = 11 then 1 else 0) else if k = 8 ∨ k = 18 ∨ k = 28 then z_sp else fun _ => 0
theorem z_RI : RI (z_0 45) 0 (100 * 0) := ⟨by omega, by decide, ⟨0, by omega, by decide⟩, fun j hj => Or.inl ((by decide : ∀ j, j < 10 → z_0 45 (3 + j) = -1) j hj), fun d hd => by omega⟩
theorem z_AI : AI z_0 0 := ⟨⟨0, z_RI⟩, Or.inl rfl, ⟨0, by omega, rfl⟩, fun j _ => ⟨0, by omega, rfl⟩, fun s _ => ⟨Or.inl rfl, 0, by omega, rfl⟩, by decide⟩
theorem z_RR : RR z_0 z_0 := ⟨rfl, rfl, rfl, rfl, rfl, rfl, rfl, rfl, rfl⟩
theorem z_CR : CR z_0 z_0 := by
  refine ⟨⟨by decide, by decide, by decide, by decide, by decide⟩, fun h => absurd h (by decide), rfl, by decide, rfl, fun j _ => rfl, fun s hs => ?_⟩
  rcases s4 hs with rfl | rfl | rfl | rfl
  · exact ⟨rfl, rfl, fun j _ => rfl⟩
  · exact ⟨rfl, rfl, fun j _ => rfl⟩
  · exact ⟨rfl, rfl, fun j _ => rfl⟩
  · exact ⟨rfl, rfl, fun j _ => rfl⟩
def z_ad (qx : Nat) (u : Nat → Nat) (qm : Nat) (v : Nat → Nat) : Nat → Nat := fun k => if k = 0 then qx else if k < 44 then u (k - 1) else if k = 44 then qm else v (k - 45)
def z_wl (cI cS cT : ClassId) (aK : Nat → Nat) (qx : Nat) (u : Nat → Nat) (qm : Nat) (v : Nat → Nat) : va_W := [(qx, .inr (4, [.ref (u 0), .ref (u 10), .ref (u 20), .ref (u 30), .ref (u 32), .ref (u 33), .ref (u 42), .int 0])), ((u 0), .inr (0, [.ref (u 1), .ref (u 2), .ref (u 3), .ref (u 4), .ref (u 5), .ref (u 6), .ref (u 7), .ref (u 8), .ref (u 9), .int 0, .int 0, .int 1])), ((u 1), .inl (cI, 10, .inl (fun _ => 0))), ((u 2), .inl (cI, 10, .inl (fun _ => 0))), ((u 3), .inl (cI, 10, .inl (fun _ => 0))), ((u 4), .inl (cI, 10, .inl (fun _ => 0))), ((u 5), .inl (cI, 10, .inl (fun _ => 0))), ((u 6), .inl (cI, 10, .inl (fun _ => 0))), ((u 7), .inl (cI, 10, .inl (upd (upd (upd (upd (upd (upd (upd (upd (upd (upd (fun _ => 0) 0 (-1)) 1 (-1)) 2 (-1)) 3 (-1)) 4 (-1)) 5 (-1)) 6 (-1)) 7 (-1)) 8 (-1)) 9 (-1)))), ((u 8), .inl (cI, 10, .inl (fun _ => 0))), ((u 9), .inl (cI, 10, .inl (fun _ => 0))), ((u 10), .inr (0, [.ref (u 11), .ref (u 12), .ref (u 13), .ref (u 14), .ref (u 15), .ref (u 16), .ref (u 17), .ref (u 18), .ref (u 19), .int 0, .int 0, .int 1])), ((u 11), .inl (cI, 10, .inl (fun _ => 0))), ((u 12), .inl (cI, 10, .inl (fun _ => 0))), ((u 13), .inl (cI, 10, .inl (fun _ => 0))), ((u 14), .inl (cI, 10, .inl (fun _ => 0))), ((u 15), .inl (cI, 10, .inl (fun _ => 0))), ((u 16), .inl (cI, 10, .inl (fun _ => 0))), ((u 17), .inl (cI, 10, .inl (upd (upd (upd (upd (upd (upd (upd (upd (upd (upd (fun _ => 0) 0 (-1)) 1 (-1)) 2 (-1)) 3 (-1)) 4 (-1)) 5 (-1)) 6 (-1)) 7 (-1)) 8 (-1)) 9 (-1)))), ((u 18), .inl (cI, 10, .inl (fun _ => 0))), ((u 19), .inl (cI, 10, .inl (fun _ => 0))), ((u 20), .inr (0, [.ref (u 21), .ref (u 22), .ref (u 23), .ref (u 24), .ref (u 25), .ref (u 26), .ref (u 27), .ref (u 28), .ref (u 29), .int 0, .int 0, .int 1])), ((u 21), .inl (cI, 10, .inl (fun _ => 0))), ((u 22), .inl (cI, 10, .inl (fun _ => 0))), ((u 23), .inl (cI, 10, .inl (fun _ => 0))), ((u 24), .inl (cI, 10, .inl (fun _ => 0))), ((u 25), .inl (cI, 10, .inl (fun _ => 0))), ((u 26), .inl (cI, 10, .inl (fun _ => 0))), ((u 27), .inl (cI, 10, .inl (upd (upd (upd (upd (upd (upd (upd (upd (upd (upd (fun _ => 0) 0 (-1)) 1 (-1)) 2 (-1)) 3 (-1)) 4 (-1)) 5 (-1)) 6 (-1)) 7 (-1)) 8 (-1)) 9 (-1)))), ((u 28), .inl (cI, 10, .inl (fun _ => 0))), ((u 29), .inl (cI, 10, .inl (fun _ => 0))), ((u 30), .inr (3, [.ref (u 31), .int 0])), ((u 31), .inl (cI, 120, .inl (fun _ => 0))), ((u 32), .inr (1, [.ref (u 30), .int 0, .int 0, .int 0, .int 0, .int 0])), ((u 33), .inl (cS, 4, .inr (.inr (.inr (.inr (va_up (va_up (va_up (va_up (fun _ => none) 0 (some (u 34))) 1 (some (u 36))) 2 (some (u 38))) 3 (some (u 40)))))))), ((u 34), .inr (2, [.ref (u 35), .int 0, .int 0])), ((u 35), .inl (cI, 40, .inl (fun _ => 0))), ((u 36), .inr (2, [.ref (u 37), .int 0, .int 0])), ((u 37), .inl (cI, 40, .inl (fun _ => 0))), ((u 38), .inr (2, [.ref (u 39), .int 0, .int 0])), ((u 39), .inl (cI, 40, .inl (fun _ => 0))), ((u 40), .inr (2, [.ref (u 41), .int 0, .int 0])), ((u 41), .inl (cI, 40, .inl (fun _ => 0))), ((u 42), .inl (cI, 7, .inl (fun _ => 0))), (qm, .inr (5, [.ref (v 0), .ref (v 1), .ref (v 2), .int 0, .ref (v 3), .ref (v 4), .ref (v 5), .int 0, .int 0, .int 0, .int 0, .int 0, .int 0, .ref (v 6), .ref (v 7), .int 0, .int 0, .ref (v 8), .ref (v 9), .ref (v 10), .ref (v 11)])), ((v 0), .inl (cI, 73, .inl (upd (upd (upd (upd (upd (upd (upd (upd (upd (upd (upd (fun _ => 0) 2 1) 3 (-1)) 4 (-1)) 5 (-1)) 6 (-1)) 7 (-1)) 8 (-1)) 9 (-1)) 10 (-1)) 11 (-1)) 12 (-1)))), ((v 1), .inl (cI, 73, .inl (fun _ => 0))), ((v 2), .inl (cI, 73, .inl (fun _ => 0))), ((v 3), .inl (cI, 8, .inl (fun _ => 0))), ((v 4), .inl (cI, 10, .inl (fun _ => 0))), ((v 5), .inl (cI, 120, .inl (fun _ => 0))), ((v 6), .inl (cT, 7, .inr (.inr (.inr (.inr (va_up (va_up (va_up (va_up (va_up (va_up (va_up (fun _ => none) 0 (some (aK 13))) 1 (some (aK 14))) 2 (some (aK 15))) 3 (some (aK 16))) 4 (some (aK 17))) 5 (some (aK 18))) 6 (some (aK 19)))))))), ((v 7), .inl (cI, 720, .inl (fun _ => 0))), ((v 8), .inl (cI, 4, .inl (fun _ => 0))), ((v 9), .inl (cI, 4, .inl (fun _ => 0))), ((v 10), .inl (cI, 160, .inl (fun _ => 0))), ((v 11), .inl (cI, 40, .inl (fun _ => 0)))]
theorem z_arr {cA : ClassId} {n : Nat} {f g : Nat → Option Nat} (h : ∀ j, j < n → f j = g j) : vp_cell cA (n, .inr (.inr (.inr (.inr f)))) = vp_cell cA (n, .inr (.inr (.inr (.inr g)))) := by
  rw [vp_cell_q, vp_cell_q]
  unfold arrV
  have e : (fun j : Fin n => va_rf (f j.val)) = fun j : Fin n => va_rf (g j.val) := funext fun j => by rw [h j.val j.isLt]
  rw [e]
theorem z_at {cI cS cT : ClassId} {aK : Nat → Nat} {qx : Nat} {u : Nat → Nat} {qm : Nat} {v : Nat → Nat} : ∀ k, k < 57 → ∃ e, (z_wl cI cS cT aK qx u qm v)[k]? = some (z_ad qx u qm v k, e)
  | 0, _ => ⟨_, rfl⟩
  | 1, _ => ⟨_, rfl⟩
  | 2, _ => ⟨_, rfl⟩
  | 3, _ => ⟨_, rfl⟩
  | 4, _ => ⟨_, rfl⟩
  | 5, _ => ⟨_, rfl⟩
  | 6, _ => ⟨_, rfl⟩
  | 7, _ => ⟨_, rfl⟩
  | 8, _ => ⟨_, rfl⟩
  | 9, _ => ⟨_, rfl⟩
  | 10, _ => ⟨_, rfl⟩
  | 11, _ => ⟨_, rfl⟩
  | 12, _ => ⟨_, rfl⟩
  | 13, _ => ⟨_, rfl⟩
  | 14, _ => ⟨_, rfl⟩
  | 15, _ => ⟨_, rfl⟩
  | 16, _ => ⟨_, rfl⟩
  | 17, _ => ⟨_, rfl⟩
  | 18, _ => ⟨_, rfl⟩
  | 19, _ => ⟨_, rfl⟩
  | 20, _ => ⟨_, rfl⟩
  | 21, _ => ⟨_, rfl⟩
  | 22, _ => ⟨_, rfl⟩
  | 23, _ => ⟨_, rfl⟩
  | 24, _ => ⟨_, rfl⟩
  | 25, _ => ⟨_, rfl⟩
  | 26, _ => ⟨_, rfl⟩
  | 27, _ => ⟨_, rfl⟩
  | 28, _ => ⟨_, rfl⟩
  | 29, _ => ⟨_, rfl⟩
  | 30, _ => ⟨_, rfl⟩
  | 31, _ => ⟨_, rfl⟩
  | 32, _ => ⟨_, rfl⟩
  | 33, _ => ⟨_, rfl⟩
  | 34, _ => ⟨_, rfl⟩
  | 35, _ => ⟨_, rfl⟩
  | 36, _ => ⟨_, rfl⟩
  | 37, _ => ⟨_, rfl⟩
  | 38, _ => ⟨_, rfl⟩
  | 39, _ => ⟨_, rfl⟩
  | 40, _ => ⟨_, rfl⟩
  | 41, _ => ⟨_, rfl⟩
  | 42, _ => ⟨_, rfl⟩
  | 43, _ => ⟨_, rfl⟩
  | 44, _ => ⟨_, rfl⟩
  | 45, _ => ⟨_, rfl⟩
  | 46, _ => ⟨_, rfl⟩
  | 47, _ => ⟨_, rfl⟩
  | 48, _ => ⟨_, rfl⟩
  | 49, _ => ⟨_, rfl⟩
  | 50, _ => ⟨_, rfl⟩
  | 51, _ => ⟨_, rfl⟩
  | 52, _ => ⟨_, rfl⟩
  | 53, _ => ⟨_, rfl⟩
  | 54, _ => ⟨_, rfl⟩
  | 55, _ => ⟨_, rfl⟩
  | 56, _ => ⟨_, rfl⟩
  | k + 57, h => absurd h (by omega)
set_option maxRecDepth 100000 in
set_option maxHeartbeats 4000000 in
theorem z_key (dC : Nat → ClassId) (dI : Nat → Nat → Nat) (cI cS cT : ClassId) (aK aV : Nat → Nat) (tu : Nat) (A : Nat → Prop) (qx : Nat) (u : Nat → Nat) (qm : Nat) (v : Nat → Nat) {H : Heap} (hP : va_P (dC, dI) fh_cl (z_wl cI cS cT aK qx u qm v) H) : ∀ (k : Nat) (sh : fh_Sh), fh_shp k = some sh → va_at (dC, dI) fh_cl (z_ad qx u qm v k, fh_ce ((dC, dI), (cI, cS, cT), z_ad qx u qm v, aK, aV, tu, A) (z_0 k) sh) H
  | 0, sh, h => by
    obtain rfl : sh = (.inr (.inl (4, [some 1, some 11, some 21, some 31, some 33, some 34, some 43, none])) : fh_Sh) := Option.some.inj (h.symm.trans rfl)
    exact hP 0 _ rfl
  | 1, sh, h => by
    obtain rfl : sh = (.inr (.inl (0, [some 2, some 3, some 4, some 5, some 6, some 7, some 8, some 9, some 10, none, none, none])) : fh_Sh) := Option.some.inj (h.symm.trans rfl)
    exact hP 1 _ rfl
  | 2, sh, h => by
    obtain rfl : sh = (.inl 10 : fh_Sh) := Option.some.inj (h.symm.trans rfl)
    exact hP 2 _ rfl
  | 3, sh, h => by
    obtain rfl : sh = (.inl 10 : fh_Sh) := Option.some.inj (h.symm.trans rfl)
    exact hP 3 _ rfl
  | 4, sh, h => by
    obtain rfl : sh = (.inl 10 : fh_Sh) := Option.some.inj (h.symm.trans rfl)
    exact hP 4 _ rfl
  | 5, sh, h => by
    obtain rfl : sh = (.inl 10 : fh_Sh) := Option.some.inj (h.symm.trans rfl)
    exact hP 5 _ rfl
  | 6, sh, h => by
    obtain rfl : sh = (.inl 10 : fh_Sh) := Option.some.inj (h.symm.trans rfl)
    exact hP 6 _ rfl
  | 7, sh, h => by
    obtain rfl : sh = (.inl 10 : fh_Sh) := Option.some.inj (h.symm.trans rfl)
    exact hP 7 _ rfl
  | 8, sh, h => by
    obtain rfl : sh = (.inl 10 : fh_Sh) := Option.some.inj (h.symm.trans rfl)
    exact hP 8 _ rfl
  | 9, sh, h => by
    obtain rfl : sh = (.inl 10 : fh_Sh) := Option.some.inj (h.symm.trans rfl)
    exact hP 9 _ rfl
  | 10, sh, h => by
    obtain rfl : sh = (.inl 10 : fh_Sh) := Option.some.inj (h.symm.trans rfl)
    exact hP 10 _ rfl
  | 11, sh, h => by
    obtain rfl : sh = (.inr (.inl (0, [some 12, some 13, some 14, some 15, some 16, some 17, some 18, some 19, some 20, none, none, none])) : fh_Sh) := Option.some.inj (h.symm.trans rfl)
    exact hP 11 _ rfl
  | 12, sh, h => by
    obtain rfl : sh = (.inl 10 : fh_Sh) := Option.some.inj (h.symm.trans rfl)
    exact hP 12 _ rfl
  | 13, sh, h => by
    obtain rfl : sh = (.inl 10 : fh_Sh) := Option.some.inj (h.symm.trans rfl)
    exact hP 13 _ rfl
  | 14, sh, h => by
    obtain rfl : sh = (.inl 10 : fh_Sh) := Option.some.inj (h.symm.trans rfl)
    exact hP 14 _ rfl
  | 15, sh, h => by
    obtain rfl : sh = (.inl 10 : fh_Sh) := Option.some.inj (h.symm.trans rfl)
    exact hP 15 _ rfl
  | 16, sh, h => by
    obtain rfl : sh = (.inl 10 : fh_Sh) := Option.some.inj (h.symm.trans rfl)
    exact hP 16 _ rfl
  | 17, sh, h => by
    obtain rfl : sh = (.inl 10 : fh_Sh) := Option.some.inj (h.symm.trans rfl)
    exact hP 17 _ rfl
  | 18, sh, h => by
    obtain rfl : sh = (.inl 10 : fh_Sh) := Option.some.inj (h.symm.trans rfl)
    exact hP 18 _ rfl
  | 19, sh, h => by
    obtain rfl : sh = (.inl 10 : fh_Sh) := Option.some.inj (h.symm.trans rfl)
    exact hP 19 _ rfl
  | 20, sh, h => by
    obtain rfl : sh = (.inl 10 : fh_Sh) := Option.some.inj (h.symm.trans rfl)
    exact hP 20 _ rfl
  | 21, sh, h => by
    obtain rfl : sh = (.inr (.inl (0, [some 22, some 23, some 24, some 25, some 26, some 27, some 28, some 29, some 30, none, none, none])) : fh_Sh) := Option.some.inj (h.symm.trans rfl)
    exact hP 21 _ rfl
  | 22, sh, h => by
    obtain rfl : sh = (.inl 10 : fh_Sh) := Option.some.inj (h.symm.trans rfl)
    exact hP 22 _ rfl
  | 23, sh, h => by
    obtain rfl : sh = (.inl 10 : fh_Sh) := Option.some.inj (h.symm.trans rfl)
    exact hP 23 _ rfl
  | 24, sh, h => by
    obtain rfl : sh = (.inl 10 : fh_Sh) := Option.some.inj (h.symm.trans rfl)
    exact hP 24 _ rfl
  | 25, sh, h => by
    obtain rfl : sh = (.inl 10 : fh_Sh) := Option.some.inj (h.symm.trans rfl)
    exact hP 25 _ rfl
  | 26, sh, h => by
    obtain rfl : sh = (.inl 10 : fh_Sh) := Option.some.inj (h.symm.trans rfl)
    exact hP 26 _ rfl
  | 27, sh, h => by
    obtain rfl : sh = (.inl 10 : fh_Sh) := Option.some.inj (h.symm.trans rfl)
    exact hP 27 _ rfl
  | 28, sh, h => by
    obtain rfl : sh = (.inl 10 : fh_Sh) := Option.some.inj (h.symm.trans rfl)
    exact hP 28 _ rfl
  | 29, sh, h => by
    obtain rfl : sh = (.inl 10 : fh_Sh) := Option.some.inj (h.symm.trans rfl)
    exact hP 29 _ rfl
  | 30, sh, h => by
    obtain rfl : sh = (.inl 10 : fh_Sh) := Option.some.inj (h.symm.trans rfl)
    exact hP 30 _ rfl
  | 31, sh, h => by
    obtain rfl : sh = (.inr (.inl (3, [some 32, none])) : fh_Sh) := Option.some.inj (h.symm.trans rfl)
    exact hP 31 _ rfl
  | 32, sh, h => by
    obtain rfl : sh = (.inl 120 : fh_Sh) := Option.some.inj (h.symm.trans rfl)
    exact hP 32 _ rfl
  | 33, sh, h => by
    obtain rfl : sh = (.inr (.inl (1, [some 31, none, none, none, none, none])) : fh_Sh) := Option.some.inj (h.symm.trans rfl)
    exact hP 33 _ rfl
  | 34, sh, h => by
    obtain rfl : sh = (.inr (.inr true) : fh_Sh) := Option.some.inj (h.symm.trans rfl)
    have g := hP 34 _ rfl
    have e := z_arr (cA := cS) (n := 4) (f := (va_up (va_up (va_up (va_up (fun _ => none) 0 (some (u 34))) 1 (some (u 36))) 2 (some (u 38))) 3 (some (u 40)))) (g := (fun j => some (z_ad qx u qm v (35 + 2 * j)))) (fun j hj => by
      rcases (show j = 0 ∨ j = 1 ∨ j = 2 ∨ j = 3 by omega) with rfl | rfl | rfl | rfl <;> rfl)
    show H[z_ad qx u qm v 34]? = some (vp_cell cS (4, .inr (.inr (.inr (.inr (fun j => some (z_ad qx u qm v (35 + 2 * j))))))))
    rw [← e]
    exact g
  | 35, sh, h => by
    obtain rfl : sh = (.inr (.inl (2, [some 36, none, none])) : fh_Sh) := Option.some.inj (h.symm.trans rfl)
    exact hP 35 _ rfl
  | 36, sh, h => by
    obtain rfl : sh = (.inl 40 : fh_Sh) := Option.some.inj (h.symm.trans rfl)
    exact hP 36 _ rfl
  | 37, sh, h => by
    obtain rfl : sh = (.inr (.inl (2, [some 38, none, none])) : fh_Sh) := Option.some.inj (h.symm.trans rfl)
    exact hP 37 _ rfl
  | 38, sh, h => by
    obtain rfl : sh = (.inl 40 : fh_Sh) := Option.some.inj (h.symm.trans rfl)
    exact hP 38 _ rfl
  | 39, sh, h => by
    obtain rfl : sh = (.inr (.inl (2, [some 40, none, none])) : fh_Sh) := Option.some.inj (h.symm.trans rfl)
    exact hP 39 _ rfl
  | 40, sh, h => by
    obtain rfl : sh = (.inl 40 : fh_Sh) := Option.some.inj (h.symm.trans rfl)
    exact hP 40 _ rfl
  | 41, sh, h => by
    obtain rfl : sh = (.inr (.inl (2, [some 42, none, none])) : fh_Sh) := Option.some.inj (h.symm.trans rfl)
    exact hP 41 _ rfl
  | 42, sh, h => by
    obtain rfl : sh = (.inl 40 : fh_Sh) := Option.some.inj (h.symm.trans rfl)
    exact hP 42 _ rfl
  | 43, sh, h => by
    obtain rfl : sh = (.inl 7 : fh_Sh) := Option.some.inj (h.symm.trans rfl)
    exact hP 43 _ rfl
  | 44, sh, h => by
    obtain rfl : sh = (.inr (.inl (5, [some 45, some 46, some 47, none, some 48, some 49, some 50, none, none, none, none, none, none, some 51, some 52, none, none, some 53, some 54, some 55, some 56])) : fh_Sh) := Option.some.inj (h.symm.trans rfl)
    exact hP 44 _ rfl
  | 45, sh, h => by
    obtain rfl : sh = (.inl 73 : fh_Sh) := Option.some.inj (h.symm.trans rfl)
    exact hP 45 _ rfl
  | 46, sh, h => by
    obtain rfl : sh = (.inl 73 : fh_Sh) := Option.some.inj (h.symm.trans rfl)
    exact hP 46 _ rfl
  | 47, sh, h => by
    obtain rfl : sh = (.inl 73 : fh_Sh) := Option.some.inj (h.symm.trans rfl)
    exact hP 47 _ rfl
  | 48, sh, h => by
    obtain rfl : sh = (.inl 8 : fh_Sh) := Option.some.inj (h.symm.trans rfl)
    exact hP 48 _ rfl
  | 49, sh, h => by
    obtain rfl : sh = (.inl 10 : fh_Sh) := Option.some.inj (h.symm.trans rfl)
    exact hP 49 _ rfl
  | 50, sh, h => by
    obtain rfl : sh = (.inl 120 : fh_Sh) := Option.some.inj (h.symm.trans rfl)
    exact hP 50 _ rfl
  | 51, sh, h => by
    obtain rfl : sh = (.inr (.inr false) : fh_Sh) := Option.some.inj (h.symm.trans rfl)
    have g := hP 51 _ rfl
    have e := z_arr (cA := cT) (n := 7) (f := (va_up (va_up (va_up (va_up (va_up (va_up (va_up (fun _ => none) 0 (some (aK 13))) 1 (some (aK 14))) 2 (some (aK 15))) 3 (some (aK 16))) 4 (some (aK 17))) 5 (some (aK 18))) 6 (some (aK 19)))) (g := (fun j => some (aK (13 + j)))) (fun j hj => by
      rcases (show j = 0 ∨ j = 1 ∨ j = 2 ∨ j = 3 ∨ j = 4 ∨ j = 5 ∨ j = 6 by omega) with rfl | rfl | rfl | rfl | rfl | rfl | rfl <;> rfl)
    show H[z_ad qx u qm v 51]? = some (vp_cell cT (7, .inr (.inr (.inr (.inr (fun j => some (aK (13 + j))))))))
    rw [← e]
    exact g
  | 52, sh, h => by
    obtain rfl : sh = (.inl 720 : fh_Sh) := Option.some.inj (h.symm.trans rfl)
    exact hP 52 _ rfl
  | 53, sh, h => by
    obtain rfl : sh = (.inl 4 : fh_Sh) := Option.some.inj (h.symm.trans rfl)
    exact hP 53 _ rfl
  | 54, sh, h => by
    obtain rfl : sh = (.inl 4 : fh_Sh) := Option.some.inj (h.symm.trans rfl)
    exact hP 54 _ rfl
  | 55, sh, h => by
    obtain rfl : sh = (.inl 160 : fh_Sh) := Option.some.inj (h.symm.trans rfl)
    exact hP 55 _ rfl
  | 56, sh, h => by
    obtain rfl : sh = (.inl 40 : fh_Sh) := Option.some.inj (h.symm.trans rfl)
    exact hP 56 _ rfl
  | k + 57, sh, h => by
    have h1 : k + 57 < fh_tab.length := (List.getElem?_eq_some_iff.mp h).1
    rw [fh_tab_len] at h1
    omega
theorem z_P (dC : Nat → ClassId) (dI : Nat → Nat → Nat) (cI cS cT : ClassId) (aK aV : Nat → Nat) (tu : Nat) (A : Nat → Prop) (qx : Nat) (u : Nat → Nat) (qm : Nat) (v : Nat → Nat) {H : Heap} (hP : va_P (dC, dI) fh_cl (z_wl cI cS cT aK qx u qm v) H) : va_P (dC, dI) fh_cl (fh_ws ((dC, dI), (cI, cS, cT), z_ad qx u qm v, aK, aV, tu, A) z_0) H := by
  intro k q hq
  unfold fh_ws at hq
  rw [List.getElem?_mapIdx] at hq
  cases ht : fh_tab[k]? with
  | none => rw [ht] at hq; cases hq
  | some sh =>
    rw [ht] at hq
    cases hq
    exact z_key dC dI cI cS cT aK aV tu A qx u qm v hP k sh ht
theorem z_ok (dC : Nat → ClassId) (dI : Nat → Nat → Nat) (cI cS cT : ClassId) (aK aV : Nat → Nat) (tu : Nat) (A : Nat → Prop) (qx : Nat) (u : Nat → Nat) (qm : Nat) (v : Nat → Nat) (hD : va_D A (z_wl cI cS cT aK qx u qm v)) : fh_ok ((dC, dI), (cI, cS, cT), z_ad qx u qm v, aK, aV, tu, A) := by
  refine ⟨fun i j hi hj e => ?_, fun k hk => ?_⟩
  · obtain ⟨e1, h1⟩ := z_at (cI := cI) (cS := cS) (cT := cT) (aK := aK) (qx := qx) (u := u) (qm := qm) (v := v) i hi
    obtain ⟨e2, h2⟩ := z_at (cI := cI) (cS := cS) (cT := cT) (aK := aK) (qx := qx) (u := u) (qm := qm) (v := v) j hj
    exact hD.1 i j _ _ h1 h2 e
  · obtain ⟨e1, h1⟩ := z_at (cI := cI) (cS := cS) (cT := cT) (aK := aK) (qx := qx) (u := u) (qm := qm) (v := v) k hk
    exact hD.2 k _ h1
