/-! ===== the law: its loop ===== -/
section LWH
variable {E : fh_E} {p : Program} {l : Launch} {e : Env} {s : State} {m : MethodId} {b : Nat} {below : List Frame} {meth : Method} {c : Code} {cl sl : Nat} {Z : State → Prop} {L : Nat} {xs : Nat → Int32}
theorem lw_cmp (v : Int64) : lg_cmp v v = 0 := by
  unfold lg_cmp
  rw [if_neg (by simp), if_pos rfl]
/-- the switch -/
theorem lw_sw (C : fh_Cx E (lw_M p l e s m b below meth c cl sl Z) code 4 RL ret room_1) (hok : fh_ok E) (hX : va_X b L xs s s.heap) (hbl : b < s.heap.size) (hbA : ¬ fh_A E b) {x3 : Int32} (h1 : vp_in (x3 + 1) L) (h2 : vp_in (x3 + 2) L) (h3 : vp_in (x3 + 3) L) (h4 : vp_in (x3 + 4) L) (h5 : vp_in (x3 + 5) L) {N : Nat} {A σ : fh_S} (hN : N < 512) (hA : AI A N) (hC : CR σ A) (hR : RR σ A)
    (K : ∀ σ2 A', AI A' (N + 1) → CR σ2 A' → RR σ2 A' → fh_Go E (lw_M p l e s m b below meth c cl sl Z) 4 fh_vU 1545 (lw_lv E b x3) [] σ2 (some ((), σ2))) : ∀ k : Nat, k < 64 → fh_Go E (lw_M p l e s m b below meth c cl sl Z) 4 fh_vU 33 (lw_lv E b x3) [.int (nI k)] σ (some ((), σ)) := by
  have go : ∀ (k tgt : Nat) (off : Int), k < 48 → (#[207, 230, 263, 306, 339, 372, 395, 418, 441, 464, 477, 500, 523, 536, 569, 602, 635, 668, 691, 704, 737, 780, 793, 816, 839, 872, 905, 948, 981, 1004, 1027, 1050, 1084, 1107, 1140, 1153, 1166, 1199, 1232, 1275, 1318, 1381, 1404, 1427, 1440, 1453, 1466, 1489] : Array Int)[((nI k).toInt - 0).toNat]? = some off → ((33 : Nat) : Int) + off = (tgt : Int) → fh_Go E (lw_M p l e s m b below meth c cl sl Z) 4 fh_vU tgt (lw_lv E b x3) [] σ (some ((), σ)) → fh_Go E (lw_M p l e s m b below meth c cl sl Z) 4 fh_vU 33 (lw_lv E b x3) [.int (nI k)] σ (some ((), σ)) := by
    intro k tgt off hk ho ht g
    obtain ⟨hx, hb, hml, hown, hts, hlk, hr, hR, hK, hE, hok, hcl⟩ := C
    intro r σ' hX' H locs ls hP hS hl
    exact lv_tableIn hx hb dL_law_33 (by rw [nI_toInt (by omega)]; omega) (by rw [nI_toInt (by omega)]; omega) ho ht (g r σ' hX' H locs ls hP hS hl)
  intro k hk
  match k, hk with
  | 0, _ => exact go 0 240 207 (by omega) (by decide) (by decide) (lw_fin (T := fun a b => a = b) (fun _ => rfl) (s_dial (xs (x3 + 1).toNatClampNeg)) hN hA hC hR K (fun X2 K2 => lw_g0 C hok hX hbl hbA h1 h2 h3 h4 h5 K2))
  | 1, _ => exact go 1 263 230 (by omega) (by decide) (by decide) (lw_fin (T := fun a b => a = b) (fun _ => rfl) (s_of (xs (x3 + 1).toNatClampNeg) (xs (x3 + 2).toNatClampNeg)) hN hA hC hR K (fun X2 K2 => lw_g1 C hok hX hbl hbA h1 h2 h3 h4 h5 K2))
  | 2, _ => exact go 2 296 263 (by omega) (by decide) (by decide) (lw_fin (T := fun a b => a = b) (fun _ => rfl) (s_change (xs (x3 + 1).toNatClampNeg) (xs (x3 + 2).toNatClampNeg) (xs (x3 + 3).toNatClampNeg)) hN hA hC hR K (fun X2 K2 => lw_g2 C hok hX hbl hbA h1 h2 h3 h4 h5 K2))
  | 3, _ => exact go 3 339 306 (by omega) (by decide) (by decide) (lw_fin (T := fun a b => a = b) (fun _ => rfl) (s_jog (xs (x3 + 1).toNatClampNeg) (xs (x3 + 2).toNatClampNeg)) hN hA hC hR K (fun X2 K2 => lw_g3 C hok hX hbl hbA h1 h2 h3 h4 h5 K2))
  | 4, _ => exact go 4 372 339 (by omega) (by decide) (by decide) (lw_fin (T := fun a b => a = b) (fun _ => rfl) (s_stop (xs (x3 + 1).toNatClampNeg) (xs (x3 + 2).toNatClampNeg)) hN hA hC hR K (fun X2 K2 => lw_g4 C hok hX hbl hbA h1 h2 h3 h4 h5 K2))
  | 5, _ => exact go 5 405 372 (by omega) (by decide) (by decide) (lw_fin (T := fun a b => a = b) (fun _ => rfl) (s_go (xs (x3 + 1).toNatClampNeg)) hN hA hC hR K (fun X2 K2 => lw_g5 C hok hX hbl hbA h1 h2 h3 h4 h5 K2))
  | 6, _ => exact go 6 428 395 (by omega) (by decide) (by decide) (lw_fin (T := fun a b => a = b) (fun _ => rfl) (s_now (xs (x3 + 1).toNatClampNeg)) hN hA hC hR K (fun X2 K2 => lw_g6 C hok hX hbl hbA h1 h2 h3 h4 h5 K2))
  | 7, _ => exact go 7 451 418 (by omega) (by decide) (by decide) (lw_fin (T := fun a b => a = b) (fun _ => rfl) (s_way (xs (x3 + 1).toNatClampNeg)) hN hA hC hR K (fun X2 K2 => lw_g7 C hok hX hbl hbA h1 h2 h3 h4 h5 K2))
  | 8, _ => exact go 8 474 441 (by omega) (by decide) (by decide) (lw_fin (T := fun a b => a = b) (fun _ => rfl) (s_ring (xs (x3 + 1).toNatClampNeg)) hN hA hC hR K (fun X2 K2 => lw_g8 C hok hX hbl hbA h1 h2 h3 h4 h5 K2))
  | 9, _ => exact go 9 497 464 (by omega) (by decide) (by decide) (lw_fin (T := fun a b => a = b) (fun _ => rfl) (s_rings) hN hA hC hR K (fun X2 K2 => lw_g9 C hok hX hbl hbA h1 h2 h3 h4 h5 K2))
  | 10, _ => exact go 10 510 477 (by omega) (by decide) (by decide) (lw_fin (T := fun a b => a = b) (fun _ => rfl) (s_before (xs (x3 + 1).toNatClampNeg)) hN hA hC hR K (fun X2 K2 => lw_g10 C hok hX hbl hbA h1 h2 h3 h4 h5 K2))
  | 11, _ => exact go 11 533 500 (by omega) (by decide) (by decide) (lw_fin (T := fun a b => a = b) (fun _ => rfl) (s_under (xs (x3 + 1).toNatClampNeg)) hN hA hC hR K (fun X2 K2 => lw_g11 C hok hX hbl hbA h1 h2 h3 h4 h5 K2))
  | 12, _ => exact go 12 556 523 (by omega) (by decide) (by decide) (lw_fin (T := fun a b => a = b) (fun _ => rfl) (s_greatest) hN hA hC hR K (fun X2 K2 => lw_g12 C hok hX hbl hbA h1 h2 h3 h4 h5 K2))
  | 13, _ => exact go 13 569 536 (by omega) (by decide) (by decide) (lw_fin (T := fun a b => a = b) (fun _ => rfl) (s_ahead (xs (x3 + 1).toNatClampNeg) (xs (x3 + 2).toNatClampNeg)) hN hA hC hR K (fun X2 K2 => lw_g13 C hok hX hbl hbA h1 h2 h3 h4 h5 K2))
  | 14, _ => exact go 14 602 569 (by omega) (by decide) (by decide) (lw_fin (T := fun a b => a = b) (fun _ => rfl) (s_going (xs (x3 + 1).toNatClampNeg) (xs (x3 + 2).toNatClampNeg)) hN hA hC hR K (fun X2 K2 => lw_g14 C hok hX hbl hbA h1 h2 h3 h4 h5 K2))
  | 15, _ => exact go 15 635 602 (by omega) (by decide) (by decide) (lw_fin (T := fun a b => a = b) (fun _ => rfl) (s_shows (xs (x3 + 1).toNatClampNeg) (xs (x3 + 2).toNatClampNeg)) hN hA hC hR K (fun X2 K2 => lw_g15 C hok hX hbl hbA h1 h2 h3 h4 h5 K2))
  | 16, _ => exact go 16 668 635 (by omega) (by decide) (by decide) (lw_fin (T := fun a b => a = b) (fun _ => rfl) (s_meet (xs (x3 + 1).toNatClampNeg) (xs (x3 + 2).toNatClampNeg)) hN hA hC hR K (fun X2 K2 => lw_g16 C hok hX hbl hbA h1 h2 h3 h4 h5 K2))
  | 17, _ => exact go 17 701 668 (by omega) (by decide) (by decide) (lw_fin (T := fun a b => a = b) (fun _ => rfl) (s_halts (xs (x3 + 1).toNatClampNeg)) hN hA hC hR K (fun X2 K2 => lw_g17 C hok hX hbl hbA h1 h2 h3 h4 h5 K2))
  | 18, _ => exact go 18 724 691 (by omega) (by decide) (by decide) (lw_fin (T := fun a b => a = b) (fun _ => rfl) (s_settles) hN hA hC hR K (fun X2 K2 => lw_g18 C hok hX hbl hbA h1 h2 h3 h4 h5 K2))
  | 19, _ => exact go 19 737 704 (by omega) (by decide) (by decide) (lw_fin (T := fun a b => a = b) (fun _ => rfl) (s_kindFor (xs (x3 + 1).toNatClampNeg) (xs (x3 + 2).toNatClampNeg)) hN hA hC hR K (fun X2 K2 => lw_g19 C hok hX hbl hbA h1 h2 h3 h4 h5 K2))
  | 20, _ => exact go 20 770 737 (by omega) (by decide) (by decide) (lw_fin (T := fun a b => a = b) (fun _ => rfl) (s_jogFor (xs (x3 + 1).toNatClampNeg) (xs (x3 + 2).toNatClampNeg) (xs (x3 + 3).toNatClampNeg)) hN hA hC hR K (fun X2 K2 => lw_g20 C hok hX hbl hbA h1 h2 h3 h4 h5 K2))
  | 21, _ => exact go 21 813 780 (by omega) (by decide) (by decide) (lw_fin (T := fun a b => a = b) (fun _ => rfl) (s_most) hN hA hC hR K (fun X2 K2 => lw_g21 C hok hX hbl hbA h1 h2 h3 h4 h5 K2))
  | 22, _ => exact go 22 826 793 (by omega) (by decide) (by decide) (lw_fin (T := fun a b => a = b) (fun _ => rfl) (s_jogs (xs (x3 + 1).toNatClampNeg)) hN hA hC hR K (fun X2 K2 => lw_g22 C hok hX hbl hbA h1 h2 h3 h4 h5 K2))
  | 23, _ => exact go 23 849 816 (by omega) (by decide) (by decide) (lw_fin (T := fun a b => a = b) (fun _ => rfl) (s_right (xs (x3 + 1).toNatClampNeg)) hN hA hC hR K (fun X2 K2 => lw_g23 C hok hX hbl hbA h1 h2 h3 h4 h5 K2))
  | 24, _ => exact go 24 872 839 (by omega) (by decide) (by decide) (lw_fin (T := fun a b => a = b) (fun _ => rfl) (s_masters (xs (x3 + 1).toNatClampNeg) (xs (x3 + 2).toNatClampNeg)) hN hA hC hR K (fun X2 K2 => lw_g24 C hok hX hbl hbA h1 h2 h3 h4 h5 K2))
  | 25, _ => exact go 25 905 872 (by omega) (by decide) (by decide) (lw_fin (T := fun a b => a = b) (fun _ => rfl) (s_kinds (xs (x3 + 1).toNatClampNeg) (xs (x3 + 2).toNatClampNeg)) hN hA hC hR K (fun X2 K2 => lw_g25 C hok hX hbl hbA h1 h2 h3 h4 h5 K2))
  | 26, _ => exact go 26 938 905 (by omega) (by decide) (by decide) (lw_fin (T := fun a b => a = b) (fun _ => rfl) (s_masterFor (xs (x3 + 1).toNatClampNeg) (xs (x3 + 2).toNatClampNeg) (xs (x3 + 3).toNatClampNeg)) hN hA hC hR K (fun X2 K2 => lw_g26 C hok hX hbl hbA h1 h2 h3 h4 h5 K2))
  | 27, _ => exact go 27 981 948 (by omega) (by decide) (by decide) (lw_fin (T := fun a b => a = b) (fun _ => rfl) (s_halted (xs (x3 + 1).toNatClampNeg) (xs (x3 + 2).toNatClampNeg)) hN hA hC hR K (fun X2 K2 => lw_g27 C hok hX hbl hbA h1 h2 h3 h4 h5 K2))
  | 28, _ => exact go 28 1014 981 (by omega) (by decide) (by decide) (lw_fin (T := fun a b => a = b) (fun _ => rfl) (s_weakest (xs (x3 + 1).toNatClampNeg)) hN hA hC hR K (fun X2 K2 => lw_g28 C hok hX hbl hbA h1 h2 h3 h4 h5 K2))
  | 29, _ => exact go 29 1037 1004 (by omega) (by decide) (by decide) (lw_fin (T := fun a b => a = b) (fun _ => rfl) (s_cut (xs (x3 + 1).toNatClampNeg)) hN hA hC hR K (fun X2 K2 => lw_g29 C hok hX hbl hbA h1 h2 h3 h4 h5 K2))
  | 30, _ => exact go 30 1060 1027 (by omega) (by decide) (by decide) (lw_fin (T := fun a b => a = b) (fun _ => rfl) (s_frosts (xs (x3 + 1).toNatClampNeg)) hN hA hC hR K (fun X2 K2 => lw_g30 C hok hX hbl hbA h1 h2 h3 h4 h5 K2))
  | 31, _ => exact go 31 1083 1050 (by omega) (by decide) (by decide) (lw_fin (T := fun a b => lg_cmp a b = 0) lw_cmp (s_odds (xs (x3 + 1).toNatClampNeg) (xs (x3 + 2).toNatClampNeg)) hN hA hC hR K (fun X2 K2 => lw_g31 C hok hX hbl hbA h1 h2 h3 h4 h5 K2))
  | 32, _ => exact go 32 1117 1084 (by omega) (by decide) (by decide) (lw_fin (T := fun a b => a = b) (fun _ => rfl) (s_seed (xs (x3 + 1).toNatClampNeg)) hN hA hC hR K (fun X2 K2 => lw_g32 C hok hX hbl hbA h1 h2 h3 h4 h5 K2))
  | 33, _ => exact go 33 1140 1107 (by omega) (by decide) (by decide) (lw_fin (T := fun a b => a = b) (fun _ => rfl) (s_feed (xs (x3 + 1).toNatClampNeg) (xs (x3 + 2).toNatClampNeg)) hN hA hC hR K (fun X2 K2 => lw_g33 C hok hX hbl hbA h1 h2 h3 h4 h5 K2))
  | 34, _ => exact go 34 1173 1140 (by omega) (by decide) (by decide) (lw_fin (T := fun a b => a = b) (fun _ => rfl) (s_wipe) hN hA hC hR K (fun X2 K2 => lw_g34 C hok hX hbl hbA h1 h2 h3 h4 h5 K2))
  | 35, _ => exact go 35 1186 1153 (by omega) (by decide) (by decide) (lw_fin (T := fun a b => a = b) (fun _ => rfl) (s_text) hN hA hC hR K (fun X2 K2 => lw_g35 C hok hX hbl hbA h1 h2 h3 h4 h5 K2))
  | 36, _ => exact go 36 1199 1166 (by omega) (by decide) (by decide) (lw_fin (T := fun a b => a = b) (fun _ => rfl) (s_hold (xs (x3 + 1).toNatClampNeg) (xs (x3 + 2).toNatClampNeg)) hN hA hC hR K (fun X2 K2 => lw_g36 C hok hX hbl hbA h1 h2 h3 h4 h5 K2))
  | 37, _ => exact go 37 1232 1199 (by omega) (by decide) (by decide) (lw_fin (T := fun a b => a = b) (fun _ => rfl) (s_as (xs (x3 + 1).toNatClampNeg) (xs (x3 + 2).toNatClampNeg)) hN hA hC hR K (fun X2 K2 => lw_g37 C hok hX hbl hbA h1 h2 h3 h4 h5 K2))
  | 38, _ => exact go 38 1265 1232 (by omega) (by decide) (by decide) (lw_fin (T := fun a b => a = b) (fun _ => rfl) (s_sheet (xs (x3 + 1).toNatClampNeg) (xs (x3 + 2).toNatClampNeg) (xs (x3 + 3).toNatClampNeg)) hN hA hC hR K (fun X2 K2 => lw_g38 C hok hX hbl hbA h1 h2 h3 h4 h5 K2))
  | 39, _ => exact go 39 1308 1275 (by omega) (by decide) (by decide) (lw_fin (T := fun a b => a = b) (fun _ => rfl) (s_write (xs (x3 + 1).toNatClampNeg) (xs (x3 + 2).toNatClampNeg) (xs (x3 + 3).toNatClampNeg)) hN hA hC hR K (fun X2 K2 => lw_g39 C hok hX hbl hbA h1 h2 h3 h4 h5 K2))
  | 40, _ => exact go 40 1351 1318 (by omega) (by decide) (by decide) (lw_fin (T := fun a b => a = b) (fun _ => rfl) (s_copy (xs (x3 + 1).toNatClampNeg) (xs (x3 + 2).toNatClampNeg) (xs (x3 + 3).toNatClampNeg) (xs (x3 + 4).toNatClampNeg) (xs (x3 + 5).toNatClampNeg)) hN hA hC hR K (fun X2 K2 => lw_g40 C hok hX hbl hbA h1 h2 h3 h4 h5 K2))
  | 41, _ => exact go 41 1414 1381 (by omega) (by decide) (by decide) (lw_fin (T := fun a b => a = b) (fun _ => rfl) (s_load (xs (x3 + 1).toNatClampNeg)) hN hA hC hR K (fun X2 K2 => lw_g41 C hok hX hbl hbA h1 h2 h3 h4 h5 K2))
  | 42, _ => exact go 42 1437 1404 (by omega) (by decide) (by decide) (lw_fin (T := fun a b => a = b) (fun _ => rfl) (s_judge (xs (x3 + 1).toNatClampNeg)) hN hA hC hR K (fun X2 K2 => lw_g42 C hok hX hbl hbA h1 h2 h3 h4 h5 K2))
  | 43, _ => exact go 43 1460 1427 (by omega) (by decide) (by decide) (lw_fin (T := fun a b => a = b) (fun _ => rfl) (s_image) hN hA hC hR K (fun X2 K2 => lw_g43 C hok hX hbl hbA h1 h2 h3 h4 h5 K2))
  | 44, _ => exact go 44 1473 1440 (by omega) (by decide) (by decide) (lw_fin (T := fun a b => a = b) (fun _ => rfl) (s_undo) hN hA hC hR K (fun X2 K2 => lw_g44 C hok hX hbl hbA h1 h2 h3 h4 h5 K2))
  | 45, _ => exact go 45 1486 1453 (by omega) (by decide) (by decide) (lw_fin (T := fun a b => a = b) (fun _ => rfl) (s_tear) hN hA hC hR K (fun X2 K2 => lw_g45 C hok hX hbl hbA h1 h2 h3 h4 h5 K2))
  | 46, _ => exact go 46 1499 1466 (by omega) (by decide) (by decide) (lw_fin (T := fun a b => a = b) (fun _ => rfl) (s_count (xs (x3 + 1).toNatClampNeg)) hN hA hC hR K (fun X2 K2 => lw_g46 C hok hX hbl hbA h1 h2 h3 h4 h5 K2))
  | 47, _ => exact go 47 1522 1489 (by omega) (by decide) (by decide) (lw_fin (T := fun a b => a = b) (fun _ => rfl) (s_status (xs (x3 + 1).toNatClampNeg)) hN hA hC hR K (fun X2 K2 => lw_g47 C hok hX hbl hbA h1 h2 h3 h4 h5 K2))
  | k + 48, hk =>
    have g := K σ A (hA.mono (by omega)) hC hR
    obtain ⟨hx, hb, hml, hown, hts, hlk, hr, hR, hK, hE, hok, hcl⟩ := C
    intro r σ' hX' H locs ls hP hS hl
    exact lv_tableOut (tgt := 1545) hx hb dL_law_33 (by rw [nI_toInt (by omega)]; omega) (by decide) (g r σ' hX' H locs ls hP hS hl)
end LWH
