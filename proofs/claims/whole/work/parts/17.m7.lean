def f_X5_halted_J32 (k1 : Nat) : fh_S → Option (Int32 × fh_S) := fun σ7 => fh_cb (f_X5_finding k1 ((-1000001 : Int32)) σ7) fun r9 σ8 => some (r9, σ8)
def f_X5_halted (k1 : Nat) (a2 : Int32) (a3 : Int32) (σ4 : fh_S) : Option (Int32 × fh_S) := fh_ob 5 k1 (fh_cb (f_X5_isDial k1 a2 σ4) fun r6 σ5 => fh_jn (f_X5_halted_J32 k1) (fun j10 => if r6 = 0 then j10 σ5 else fh_cb (f_X5_within a3 ((0 : Int32)) ((100 : Int32)) σ5) fun r12 σ11 => if r12 = 0 then j10 σ11 else fh_cb (f_X5_stillWith k1 (((1 : Int32)) <<< (a2 &&& 31)) a3 σ11) fun r14 σ13 => fh_cb (f_X5_bits r14 σ13) fun r16 σ15 => some (r16, σ15)))
abbrev rm_X5_halted : Room := { frames := 8, cells := 0, slots := 0, locals := 178 }
theorem pd_X5_halted : yX5_halted.cls ≠ "java/lang/invoke/MethodHandle" ∧ yX5_halted.cls ≠ "java/lang/invoke/VarHandle" ∧ (parseMethodDescriptor yX5_halted.desc).map (fun d => d.parameters.length) = some 2 := by decide +kernel
theorem dX5_halted_0 : decode cX5_halted 0 = .ok (.aload_n 0, 1) := by decide +kernel
theorem dX5_halted_1 : decode cX5_halted 1 = .ok (.iload_n 1, 1) := by decide +kernel
theorem dX5_halted_2 : decode cX5_halted 2 = .ok (.invokevirtual 112, 3) := by decide +kernel
theorem dX5_halted_5 : decode cX5_halted 5 = .ok (.ifCond .eq 27, 3) := by decide +kernel
theorem dX5_halted_8 : decode cX5_halted 8 = .ok (.iload_n 2, 1) := by decide +kernel
theorem dX5_halted_9 : decode cX5_halted 9 = .ok (.iconst 0, 1) := by decide +kernel
theorem dX5_halted_10 : decode cX5_halted 10 = .ok (.bipush 100, 2) := by decide +kernel
theorem dX5_halted_12 : decode cX5_halted 12 = .ok (.invokestatic 73, 3) := by decide +kernel
theorem dX5_halted_15 : decode cX5_halted 15 = .ok (.ifCond .eq 17, 3) := by decide +kernel
theorem dX5_halted_18 : decode cX5_halted 18 = .ok (.aload_n 0, 1) := by decide +kernel
theorem dX5_halted_19 : decode cX5_halted 19 = .ok (.iconst 1, 1) := by decide +kernel
theorem dX5_halted_20 : decode cX5_halted 20 = .ok (.iload_n 1, 1) := by decide +kernel
theorem dX5_halted_21 : decode cX5_halted 21 = .ok (.ishl, 1) := by decide +kernel
theorem dX5_halted_22 : decode cX5_halted 22 = .ok (.iload_n 2, 1) := by decide +kernel
theorem dX5_halted_23 : decode cX5_halted 23 = .ok (.invokevirtual 220, 3) := by decide +kernel
theorem dX5_halted_26 : decode cX5_halted 26 = .ok (.invokestatic 146, 3) := by decide +kernel
theorem dX5_halted_29 : decode cX5_halted 29 = .ok (.goto 9, 3) := by decide +kernel
theorem dX5_halted_32 : decode cX5_halted 32 = .ok (.aload_n 0, 1) := by decide +kernel
theorem dX5_halted_33 : decode cX5_halted 33 = .ok (.ldc 63, 2) := by decide +kernel
theorem dX5_halted_35 : decode cX5_halted 35 = .ok (.invokevirtual 69, 3) := by decide +kernel
theorem dX5_halted_38 : decode cX5_halted 38 = .ok (.ireturn, 1) := by decide +kernel
set_option maxHeartbeats 4000000 in
set_option maxRecDepth 100000 in
theorem g_X5_halted {E : fh_E} {M : fh_M} (C : fh_Cx E M cX5_halted 3 RX5 ((some FieldType.int)) rm_X5_halted) (Hr : fh_Rt E M) (k1 : Nat) (a2 : Int32) (a3 : Int32) (σ4 : fh_S) : fh_Go E M 3 fh_vI 0 [(0, .ref (fh_ad E k1)), (1, .int a2), (2, .int a3)] [] σ4 (f_X5_halted k1 a2 a3 σ4) := by
  have hok := fh_cok C
  refine go_ob ?_
  refine go_aload_n C 0 rfl rfl dX5_halted_0 ?_
  refine go_iload_n C 1 rfl rfl dX5_halted_1 ?_
  refine go_callVI C (st := []) [.int a2] (m_X5_isDial E _ hok k1 a2 σ4) (fun _ h => fh_ob_ok h) rfl rfl ⟨q_837, q_839, qs_21, q_6, q_840⟩ pd_X5_isDial rfl ⟨⟨Nat.le_of_ble_eq_true rfl, Nat.le_of_ble_eq_true rfl⟩, rfl, rfl⟩ (Nat.le_of_ble_eq_true rfl) dX5_halted_2 (fun r6 σ5 => ?_)
  refine go_jn (fun (j10 : fh_S → Option (Int32 × fh_S)) => ∀ (σ7 : fh_S), fh_Go E M 3 fh_vI 32 [(0, .ref (fh_ad E k1))] [] σ7 (j10 σ7)) ?_ (fun j10 hj10 => ?_)
  · intro σ7
    refine go_aload_n C 0 rfl rfl dX5_halted_32 ?_
    refine go_ldc C q_820 dX5_halted_33 ?_
    refine go_callVI C (st := []) [.int ((-1000001 : Int32))] (m_X5_finding E _ hok k1 ((-1000001 : Int32)) σ7) (fun _ h => fh_ob_ok h) rfl rfl ⟨q_821, q_823, qs_19, q_6, q_824⟩ pd_X5_finding rfl ⟨⟨Nat.le_of_ble_eq_true rfl, Nat.le_of_ble_eq_true rfl⟩, rfl, rfl⟩ (Nat.le_of_ble_eq_true rfl) dX5_halted_35 (fun r9 σ8 => ?_)
    exact go_iret C Hr rfl dX5_halted_38
  refine go_if_eq (tgt := 32) C dX5_halted_5 rfl (fun _ => ?_) (fun _ => ?_)
  · refine go_lv [0] (lv' := [(0, .ref (fh_ad E k1))]) rfl ?_
    exact hj10 σ5
  · refine go_iload_n C 2 rfl rfl dX5_halted_8 ?_
    refine go_iconst C (0 : Int32) dX5_halted_9 rfl ?_
    refine go_bipush C (100 : Int32) dX5_halted_10 rfl ?_
    refine go_callSI C (st := []) [.int a3, .int ((0 : Int32)), .int ((100 : Int32))] (m_X5_within E _ hok a3 ((0 : Int32)) ((100 : Int32)) σ5) rfl ⟨q_817, q_818, q_6, q_819⟩ pd_X5_within rfl ⟨⟨Nat.le_of_ble_eq_true rfl, Nat.le_of_ble_eq_true rfl⟩, rfl, rfl⟩ (Nat.le_of_ble_eq_true rfl) dX5_halted_12 (fun r12 σ11 => ?_)
    refine go_if_eq (tgt := 32) C dX5_halted_15 rfl (fun _ => ?_) (fun _ => ?_)
    · refine go_lv [0] (lv' := [(0, .ref (fh_ad E k1))]) rfl ?_
      exact hj10 σ11
    · refine go_aload_n C 0 rfl rfl dX5_halted_18 ?_
      refine go_iconst C (1 : Int32) dX5_halted_19 rfl ?_
      refine go_iload_n C 1 rfl rfl dX5_halted_20 ?_
      refine go_ishl C dX5_halted_21 ?_
      refine go_iload_n C 2 rfl rfl dX5_halted_22 ?_
      refine go_callVI C (st := []) [.int (((1 : Int32)) <<< (a2 &&& 31)), .int a3] (m_X5_stillWith E _ hok k1 (((1 : Int32)) <<< (a2 &&& 31)) a3 σ11) (fun _ h => fh_ob_ok h) rfl rfl ⟨q_1089, q_1091, qs_51, q_6, q_1092⟩ pd_X5_stillWith rfl ⟨⟨Nat.le_of_ble_eq_true rfl, Nat.le_of_ble_eq_true rfl⟩, rfl, rfl⟩ (Nat.le_of_ble_eq_true rfl) dX5_halted_23 (fun r14 σ13 => ?_)
      refine go_callSI C (st := []) [.int r14] (m_X5_bits E _ hok r14 σ13) rfl ⟨q_934, q_935, q_6, q_936⟩ pd_X5_bits rfl ⟨⟨Nat.le_of_ble_eq_true rfl, Nat.le_of_ble_eq_true rfl⟩, rfl, rfl⟩ (Nat.le_of_ble_eq_true rfl) dX5_halted_26 (fun r16 σ15 => ?_)
      refine go_goto C 38 dX5_halted_29 rfl ?_
      exact go_iret C Hr rfl dX5_halted_38
theorem m_X5_halted (E : fh_E) (l : Launch) (hok : fh_ok E) (k1 : Nat) (a2 : Int32) (a3 : Int32) (σ4 : fh_S) : fh_Met E l yX5_halted cX5_halted 3 ((some FieldType.int)) rm_X5_halted fh_vI [.ref (fh_ad E k1), .int a2, .int a3] σ4 (f_X5_halted k1 a2 a3 σ4) := fh_met hok (by decide +kernel) (Nat.le_of_ble_eq_true rfl) (fun M _ C Hr => g_X5_halted C Hr k1 a2 a3 σ4)
def f_X5_weakest_J61 (x7 : Int32) (r18 : Int32) (r10 : Int32 → Int32 → Int32 → fh_S → Option (Int32 × fh_S)) (x8 : Int32) : Int32 → fh_S → Option (Int32 × fh_S) := fun x19 σ20 => fh_cb (f_J9_max_7cf53 x7 r18 σ20) fun r22 σ21 => r10 x19 r22 (x8 + 1) σ21
def f_X5_weakest_B24 (k1 : Nat) (a2 : Int32) (r10 : Int32 → Int32 → Int32 → fh_S → Option (Int32 × fh_S)) : Int32 → Int32 → Int32 → fh_S → Option (Int32 × fh_S) := fun x6 x7 x8 σ9 => (fh_gr 5 k1 0).bind fun k11 => (fh_ld σ9 k11 ((1 : Int32))).bind fun v12 => if v12 ≤ x8 then fh_cb (f_X5_orNone k1 x6 σ9) fun r14 σ13 => some (r14, σ13) else fh_cb (f_X5_stillWith k1 (((1 : Int32)) <<< (x8 &&& 31)) a2 σ9) fun r16 σ15 => fh_cb (f_X5_bits r16 σ15) fun r18 σ17 => fh_jn (f_X5_weakest_J61 x7 r18 r10 x8) (fun j23 => if r18 ≤ x7 then j23 x6 σ17 else j23 x8 σ17)
def f_X5_weakest (k1 : Nat) (a2 : Int32) (σ3 : fh_S) : Option (Int32 × fh_S) := fh_ob 5 k1 (fh_cb (f_X5_within a2 ((0 : Int32)) ((100 : Int32)) σ3) fun r5 σ4 => if r5 = 0 then fh_cb (f_X5_finding k1 ((-1000001 : Int32)) σ4) fun r25 σ24 => some (r25, σ24) else fh_fx (ρ := Int32 → Int32 → Int32 → fh_S → Option (Int32 × fh_S)) (fun _ _ _ _ => none) (f_X5_weakest_B24 k1 a2) fh_fu ((-1 : Int32)) ((-1 : Int32)) ((0 : Int32)) σ4)
abbrev rm_X5_weakest : Room := { frames := 8, cells := 0, slots := 0, locals := 178 }
theorem pd_X5_weakest : yX5_weakest.cls ≠ "java/lang/invoke/MethodHandle" ∧ yX5_weakest.cls ≠ "java/lang/invoke/VarHandle" ∧ (parseMethodDescriptor yX5_weakest.desc).map (fun d => d.parameters.length) = some 1 := by decide +kernel
theorem dX5_weakest_0 : decode cX5_weakest 0 = .ok (.iload_n 1, 1) := by decide +kernel
theorem dX5_weakest_1 : decode cX5_weakest 1 = .ok (.iconst 0, 1) := by decide +kernel
theorem dX5_weakest_2 : decode cX5_weakest 2 = .ok (.bipush 100, 2) := by decide +kernel
theorem dX5_weakest_4 : decode cX5_weakest 4 = .ok (.invokestatic 73, 3) := by decide +kernel
theorem dX5_weakest_7 : decode cX5_weakest 7 = .ok (.ifCond .ne 10, 3) := by decide +kernel
theorem dX5_weakest_10 : decode cX5_weakest 10 = .ok (.aload_n 0, 1) := by decide +kernel
theorem dX5_weakest_11 : decode cX5_weakest 11 = .ok (.ldc 63, 2) := by decide +kernel
theorem dX5_weakest_13 : decode cX5_weakest 13 = .ok (.invokevirtual 69, 3) := by decide +kernel
theorem dX5_weakest_16 : decode cX5_weakest 16 = .ok (.ireturn, 1) := by decide +kernel
theorem dX5_weakest_17 : decode cX5_weakest 17 = .ok (.iconst (-1), 1) := by decide +kernel
theorem dX5_weakest_18 : decode cX5_weakest 18 = .ok (.istore_n 2, 1) := by decide +kernel
theorem dX5_weakest_19 : decode cX5_weakest 19 = .ok (.iconst (-1), 1) := by decide +kernel
theorem dX5_weakest_20 : decode cX5_weakest 20 = .ok (.istore_n 3, 1) := by decide +kernel
theorem dX5_weakest_21 : decode cX5_weakest 21 = .ok (.iconst 0, 1) := by decide +kernel
theorem dX5_weakest_22 : decode cX5_weakest 22 = .ok (.istore 4, 2) := by decide +kernel
theorem dX5_weakest_24 : decode cX5_weakest 24 = .ok (.iload 4, 2) := by decide +kernel
theorem dX5_weakest_26 : decode cX5_weakest 26 = .ok (.aload_n 0, 1) := by decide +kernel
theorem dX5_weakest_27 : decode cX5_weakest 27 = .ok (.getfield 9, 3) := by decide +kernel
theorem dX5_weakest_30 : decode cX5_weakest 30 = .ok (.iconst 1, 1) := by decide +kernel
theorem dX5_weakest_31 : decode cX5_weakest 31 = .ok (.iaload, 1) := by decide +kernel
theorem dX5_weakest_32 : decode cX5_weakest 32 = .ok (.if_icmp .ge 43, 3) := by decide +kernel
theorem dX5_weakest_35 : decode cX5_weakest 35 = .ok (.aload_n 0, 1) := by decide +kernel
theorem dX5_weakest_36 : decode cX5_weakest 36 = .ok (.iconst 1, 1) := by decide +kernel
theorem dX5_weakest_37 : decode cX5_weakest 37 = .ok (.iload 4, 2) := by decide +kernel
theorem dX5_weakest_39 : decode cX5_weakest 39 = .ok (.ishl, 1) := by decide +kernel
theorem dX5_weakest_40 : decode cX5_weakest 40 = .ok (.iload_n 1, 1) := by decide +kernel
theorem dX5_weakest_41 : decode cX5_weakest 41 = .ok (.invokevirtual 220, 3) := by decide +kernel
theorem dX5_weakest_44 : decode cX5_weakest 44 = .ok (.invokestatic 146, 3) := by decide +kernel
theorem dX5_weakest_47 : decode cX5_weakest 47 = .ok (.istore 5, 2) := by decide +kernel
theorem dX5_weakest_49 : decode cX5_weakest 49 = .ok (.iload 5, 2) := by decide +kernel
theorem dX5_weakest_51 : decode cX5_weakest 51 = .ok (.iload_n 3, 1) := by decide +kernel
theorem dX5_weakest_52 : decode cX5_weakest 52 = .ok (.if_icmp .le 8, 3) := by decide +kernel
theorem dX5_weakest_55 : decode cX5_weakest 55 = .ok (.iload 4, 2) := by decide +kernel
theorem dX5_weakest_57 : decode cX5_weakest 57 = .ok (.goto 4, 3) := by decide +kernel
theorem dX5_weakest_60 : decode cX5_weakest 60 = .ok (.iload_n 2, 1) := by decide +kernel
theorem dX5_weakest_61 : decode cX5_weakest 61 = .ok (.istore_n 2, 1) := by decide +kernel
theorem dX5_weakest_62 : decode cX5_weakest 62 = .ok (.iload_n 3, 1) := by decide +kernel
theorem dX5_weakest_63 : decode cX5_weakest 63 = .ok (.iload 5, 2) := by decide +kernel
theorem dX5_weakest_65 : decode cX5_weakest 65 = .ok (.invokestatic 104, 3) := by decide +kernel
theorem dX5_weakest_68 : decode cX5_weakest 68 = .ok (.istore_n 3, 1) := by decide +kernel
theorem dX5_weakest_69 : decode cX5_weakest 69 = .ok (.iinc 4 1, 3) := by decide +kernel
theorem dX5_weakest_72 : decode cX5_weakest 72 = .ok (.goto (-48), 3) := by decide +kernel
theorem dX5_weakest_75 : decode cX5_weakest 75 = .ok (.aload_n 0, 1) := by decide +kernel
theorem dX5_weakest_76 : decode cX5_weakest 76 = .ok (.iload_n 2, 1) := by decide +kernel
theorem dX5_weakest_77 : decode cX5_weakest 77 = .ok (.invokevirtual 180, 3) := by decide +kernel
theorem dX5_weakest_80 : decode cX5_weakest 80 = .ok (.ireturn, 1) := by decide +kernel
set_option maxHeartbeats 4000000 in
set_option maxRecDepth 100000 in
theorem g_X5_weakest {E : fh_E} {M : fh_M} (C : fh_Cx E M cX5_weakest 6 RX5 ((some FieldType.int)) rm_X5_weakest) (Hr : fh_Rt E M) (k1 : Nat) (a2 : Int32) (σ3 : fh_S) : fh_Go E M 6 fh_vI 0 [(0, .ref (fh_ad E k1)), (1, .int a2)] [] σ3 (f_X5_weakest k1 a2 σ3) := by
  have hok := fh_cok C
  refine go_ob ?_
  refine go_iload_n C 1 rfl rfl dX5_weakest_0 ?_
  refine go_iconst C (0 : Int32) dX5_weakest_1 rfl ?_
  refine go_bipush C (100 : Int32) dX5_weakest_2 rfl ?_
  refine go_callSI C (st := []) [.int a2, .int ((0 : Int32)), .int ((100 : Int32))] (m_X5_within E _ hok a2 ((0 : Int32)) ((100 : Int32)) σ3) rfl ⟨q_817, q_818, q_6, q_819⟩ pd_X5_within rfl ⟨⟨Nat.le_of_ble_eq_true rfl, Nat.le_of_ble_eq_true rfl⟩, rfl, rfl⟩ (Nat.le_of_ble_eq_true rfl) dX5_weakest_4 (fun r5 σ4 => ?_)
  refine go_if_ne (tgt := 17) C dX5_weakest_7 rfl (fun _ => ?_) (fun _ => ?_)
  · refine go_iconst C (-1 : Int32) dX5_weakest_17 rfl ?_
    refine go_istore_n C [(2, .int ((-1 : Int32))), (0, .ref (fh_ad E k1)), (1, .int a2)] rfl rfl (by decide) dX5_weakest_18 ?_
    refine go_iconst C (-1 : Int32) dX5_weakest_19 rfl ?_
    refine go_istore_n C [(3, .int ((-1 : Int32))), (2, .int ((-1 : Int32))), (0, .ref (fh_ad E k1)), (1, .int a2)] rfl rfl (by decide) dX5_weakest_20 ?_
    refine go_iconst C (0 : Int32) dX5_weakest_21 rfl ?_
    refine go_istore C [(4, .int ((0 : Int32))), (3, .int ((-1 : Int32))), (2, .int ((-1 : Int32))), (0, .ref (fh_ad E k1)), (1, .int a2)] rfl (by decide) dX5_weakest_22 ?_
    refine go_lv [3, 4, 2, 1, 0] (lv' := [(0, .ref (fh_ad E k1)), (1, .int a2), (2, .int ((-1 : Int32))), (3, .int ((-1 : Int32))), (4, .int ((0 : Int32)))]) rfl ?_
    refine go_fx (fun (r10 : Int32 → Int32 → Int32 → fh_S → Option (Int32 × fh_S)) => ∀ (x6 : Int32) (x7 : Int32) (x8 : Int32) (σ9 : fh_S), fh_Go E M 6 fh_vI 24 [(0, .ref (fh_ad E k1)), (1, .int a2), (2, .int x6), (3, .int x7), (4, .int x8)] [] σ9 (r10 x6 x7 x8 σ9)) ?_ ?_ fh_fu ((-1 : Int32)) ((-1 : Int32)) ((0 : Int32)) σ4
    · intro x6 x7 x8 σ9
      exact go_none
    · intro r10 hr10 x6 x7 x8 σ9
      refine go_iload C 4 rfl dX5_weakest_24 ?_
      refine go_aload_n C 0 rfl rfl dX5_weakest_26 ?_
      refine go_gr (ci := 5) (j := 0) C fh_in5 rfl (by decide) rfl q_746 dX5_weakest_27 (fun k11 => ?_)
      refine go_iconst C (1 : Int32) dX5_weakest_30 rfl ?_
      refine go_iald C dX5_weakest_31 (fun v12 => ?_)
      refine go_icmp_ge (tgt := 75) C dX5_weakest_32 rfl (fun _ => ?_) (fun _ => ?_)
      · refine go_aload_n C 0 rfl rfl dX5_weakest_75 ?_
        refine go_iload_n C 2 rfl rfl dX5_weakest_76 ?_
        refine go_callVI C (st := []) [.int x6] (m_X5_orNone E _ hok k1 x6 σ9) (fun _ h => fh_ob_ok h) rfl rfl ⟨q_980, q_982, qs_41, q_6, q_983⟩ pd_X5_orNone rfl ⟨⟨Nat.le_of_ble_eq_true rfl, Nat.le_of_ble_eq_true rfl⟩, rfl, rfl⟩ (Nat.le_of_ble_eq_true rfl) dX5_weakest_77 (fun r14 σ13 => ?_)
        exact go_iret C Hr rfl dX5_weakest_80
      · refine go_aload_n C 0 rfl rfl dX5_weakest_35 ?_
        refine go_iconst C (1 : Int32) dX5_weakest_36 rfl ?_
        refine go_iload C 4 rfl dX5_weakest_37 ?_
        refine go_ishl C dX5_weakest_39 ?_
        refine go_iload_n C 1 rfl rfl dX5_weakest_40 ?_
        refine go_callVI C (st := []) [.int (((1 : Int32)) <<< (x8 &&& 31)), .int a2] (m_X5_stillWith E _ hok k1 (((1 : Int32)) <<< (x8 &&& 31)) a2 σ9) (fun _ h => fh_ob_ok h) rfl rfl ⟨q_1089, q_1091, qs_51, q_6, q_1092⟩ pd_X5_stillWith rfl ⟨⟨Nat.le_of_ble_eq_true rfl, Nat.le_of_ble_eq_true rfl⟩, rfl, rfl⟩ (Nat.le_of_ble_eq_true rfl) dX5_weakest_41 (fun r16 σ15 => ?_)
        refine go_callSI C (st := []) [.int r16] (m_X5_bits E _ hok r16 σ15) rfl ⟨q_934, q_935, q_6, q_936⟩ pd_X5_bits rfl ⟨⟨Nat.le_of_ble_eq_true rfl, Nat.le_of_ble_eq_true rfl⟩, rfl, rfl⟩ (Nat.le_of_ble_eq_true rfl) dX5_weakest_44 (fun r18 σ17 => ?_)
        refine go_istore C [(5, .int r18), (0, .ref (fh_ad E k1)), (1, .int a2), (2, .int x6), (3, .int x7), (4, .int x8)] rfl (by decide) dX5_weakest_47 ?_
        refine go_iload C 0 rfl dX5_weakest_49 ?_
        refine go_iload_n C 4 rfl rfl dX5_weakest_51 ?_
        refine go_jn (fun (j23 : Int32 → fh_S → Option (Int32 × fh_S)) => ∀ (x19 : Int32) (σ20 : fh_S), fh_Go E M 6 fh_vI 61 [(0, .ref (fh_ad E k1)), (1, .int a2), (3, .int x7), (4, .int x8), (5, .int r18)] [.int x19] σ20 (j23 x19 σ20)) ?_ (fun j23 hj23 => ?_)
        · intro x19 σ20
          refine go_istore_n C [(2, .int x19), (0, .ref (fh_ad E k1)), (1, .int a2), (3, .int x7), (4, .int x8), (5, .int r18)] rfl rfl (by decide) dX5_weakest_61 ?_
          refine go_iload_n C 3 rfl rfl dX5_weakest_62 ?_
          refine go_iload C 5 rfl dX5_weakest_63 ?_
          refine go_callSI C (st := []) [.int x7, .int r18] (m_J9_max_7cf53 E _ hok x7 r18 σ20) rfl ⟨q_860, q_215, q_7, q_216⟩ pd_J9_max_7cf53 rfl ⟨⟨Nat.le_of_ble_eq_true rfl, Nat.le_of_ble_eq_true rfl⟩, rfl, rfl⟩ (Nat.le_of_ble_eq_true rfl) dX5_weakest_65 (fun r22 σ21 => ?_)
          refine go_istore_n C [(3, .int r22), (2, .int x19), (0, .ref (fh_ad E k1)), (1, .int a2), (4, .int x8), (5, .int r18)] rfl rfl (by decide) dX5_weakest_68 ?_
          refine go_iinc C (x8 + 1) 4 [(4, .int (x8 + 1)), (3, .int r22), (2, .int x19), (0, .ref (fh_ad E k1)), (1, .int a2), (5, .int r18)] rfl rfl rfl (by decide) dX5_weakest_69 ?_
          refine go_goto C 24 dX5_weakest_72 rfl ?_
          refine go_lv [3, 4, 2, 1, 0] (lv' := [(0, .ref (fh_ad E k1)), (1, .int a2), (2, .int x19), (3, .int r22), (4, .int (x8 + 1))]) rfl ?_
          exact hr10 x19 r22 (x8 + 1) σ21
        refine go_icmp_le (tgt := 60) C dX5_weakest_52 rfl (fun _ => ?_) (fun _ => ?_)
        · refine go_iload_n C 3 rfl rfl dX5_weakest_60 ?_
          refine go_lv [1, 2, 4, 5, 0] (lv' := [(0, .ref (fh_ad E k1)), (1, .int a2), (3, .int x7), (4, .int x8), (5, .int r18)]) rfl ?_
          exact hj23 x6 σ17
        · refine go_iload C 5 rfl dX5_weakest_55 ?_
          refine go_goto C 61 dX5_weakest_57 rfl ?_
          refine go_lv [1, 2, 4, 5, 0] (lv' := [(0, .ref (fh_ad E k1)), (1, .int a2), (3, .int x7), (4, .int x8), (5, .int r18)]) rfl ?_
          exact hj23 x8 σ17
  · refine go_aload_n C 0 rfl rfl dX5_weakest_10 ?_
    refine go_ldc C q_820 dX5_weakest_11 ?_
    refine go_callVI C (st := []) [.int ((-1000001 : Int32))] (m_X5_finding E _ hok k1 ((-1000001 : Int32)) σ4) (fun _ h => fh_ob_ok h) rfl rfl ⟨q_821, q_823, qs_19, q_6, q_824⟩ pd_X5_finding rfl ⟨⟨Nat.le_of_ble_eq_true rfl, Nat.le_of_ble_eq_true rfl⟩, rfl, rfl⟩ (Nat.le_of_ble_eq_true rfl) dX5_weakest_13 (fun r25 σ24 => ?_)
    exact go_iret C Hr rfl dX5_weakest_16
theorem m_X5_weakest (E : fh_E) (l : Launch) (hok : fh_ok E) (k1 : Nat) (a2 : Int32) (σ3 : fh_S) : fh_Met E l yX5_weakest cX5_weakest 6 ((some FieldType.int)) rm_X5_weakest fh_vI [.ref (fh_ad E k1), .int a2] σ3 (f_X5_weakest k1 a2 σ3) := fh_met hok (by decide +kernel) (Nat.le_of_ble_eq_true rfl) (fun M _ C Hr => g_X5_weakest C Hr k1 a2 σ3)
def f_X5_cut_J84 (r11 : Int32 → Int32 → fh_S → Option (Int32 × fh_S)) (x9 : Int32) : Int32 → fh_S → Option (Int32 × fh_S) := fun x16 σ17 => r11 x16 (x9 + 1) σ17
def f_X5_cut_J83 (j18 : Int32 → fh_S → Option (Int32 × fh_S)) (x8 : Int32) : fh_S → Option (Int32 × fh_S) := fun σ19 => j18 x8 σ19
def f_X5_cut_J60 (r11 : Int32 → Int32 → fh_S → Option (Int32 × fh_S)) (x9 : Int32) (x8 : Int32) (k1 : Nat) (a2 : Int32) (v7 : Int32) : Int32 → fh_S → Option (Int32 × fh_S) := fun x14 σ15 => fh_jn (f_X5_cut_J84 r11 x9) (fun j18 => fh_jn (f_X5_cut_J83 j18 x8) (fun j20 => if x14 = 0 then j20 σ15 else fh_cb (f_X5_stillWith k1 x9 a2 σ15) fun r22 σ21 => if r22 = ((((1 : Int32)) <<< (v7 &&& 31)) - ((1 : Int32))) then j18 x9 σ21 else j20 σ21))
def f_X5_cut_J55 (j23 : Int32 → fh_S → Option (Int32 × fh_S)) : fh_S → Option (Int32 × fh_S) := fun σ24 => j23 ((1 : Int32)) σ24
def f_X5_cut_B33 (v7 : Int32) (k1 : Nat) (a2 : Int32) (r11 : Int32 → Int32 → fh_S → Option (Int32 × fh_S)) : Int32 → Int32 → fh_S → Option (Int32 × fh_S) := fun x8 x9 σ10 => if ((((1 : Int32)) <<< (v7 &&& 31)) - ((1 : Int32))) < x9 then fh_cb (f_X5_orNone k1 x8 σ10) fun r13 σ12 => some (r13, σ12) else fh_jn (f_X5_cut_J60 r11 x9 x8 k1 a2 v7) (fun j23 => fh_jn (f_X5_cut_J55 j23) (fun j25 => if x8 < 0 then j25 σ10 else fh_cb (f_X5_bits x9 σ10) fun r27 σ26 => fh_cb (f_X5_bits x8 σ26) fun r29 σ28 => if r29 ≤ r27 then j23 ((0 : Int32)) σ28 else j25 σ28))
def f_X5_cut (k1 : Nat) (a2 : Int32) (σ3 : fh_S) : Option (Int32 × fh_S) := fh_ob 5 k1 (fh_cb (f_X5_within a2 ((0 : Int32)) ((100 : Int32)) σ3) fun r5 σ4 => if r5 = 0 then fh_cb (f_X5_finding k1 ((-1000001 : Int32)) σ4) fun r31 σ30 => some (r31, σ30) else (fh_gr 5 k1 0).bind fun k6 => (fh_ld σ4 k6 ((1 : Int32))).bind fun v7 => fh_fx (ρ := Int32 → Int32 → fh_S → Option (Int32 × fh_S)) (fun _ _ _ => none) (f_X5_cut_B33 v7 k1 a2) fh_fu ((-1 : Int32)) ((0 : Int32)) σ4)
abbrev rm_X5_cut : Room := { frames := 8, cells := 0, slots := 0, locals := 178 }
theorem pd_X5_cut : yX5_cut.cls ≠ "java/lang/invoke/MethodHandle" ∧ yX5_cut.cls ≠ "java/lang/invoke/VarHandle" ∧ (parseMethodDescriptor yX5_cut.desc).map (fun d => d.parameters.length) = some 1 := by decide +kernel
theorem dX5_cut_0 : decode cX5_cut 0 = .ok (.iload_n 1, 1) := by decide +kernel
theorem dX5_cut_1 : decode cX5_cut 1 = .ok (.iconst 0, 1) := by decide +kernel
theorem dX5_cut_2 : decode cX5_cut 2 = .ok (.bipush 100, 2) := by decide +kernel
theorem dX5_cut_4 : decode cX5_cut 4 = .ok (.invokestatic 73, 3) := by decide +kernel
theorem dX5_cut_7 : decode cX5_cut 7 = .ok (.ifCond .ne 10, 3) := by decide +kernel
theorem dX5_cut_10 : decode cX5_cut 10 = .ok (.aload_n 0, 1) := by decide +kernel
theorem dX5_cut_11 : decode cX5_cut 11 = .ok (.ldc 63, 2) := by decide +kernel
theorem dX5_cut_13 : decode cX5_cut 13 = .ok (.invokevirtual 69, 3) := by decide +kernel
theorem dX5_cut_16 : decode cX5_cut 16 = .ok (.ireturn, 1) := by decide +kernel
theorem dX5_cut_17 : decode cX5_cut 17 = .ok (.iconst 1, 1) := by decide +kernel
theorem dX5_cut_18 : decode cX5_cut 18 = .ok (.aload_n 0, 1) := by decide +kernel
theorem dX5_cut_19 : decode cX5_cut 19 = .ok (.getfield 9, 3) := by decide +kernel
theorem dX5_cut_22 : decode cX5_cut 22 = .ok (.iconst 1, 1) := by decide +kernel
theorem dX5_cut_23 : decode cX5_cut 23 = .ok (.iaload, 1) := by decide +kernel
theorem dX5_cut_24 : decode cX5_cut 24 = .ok (.ishl, 1) := by decide +kernel
theorem dX5_cut_25 : decode cX5_cut 25 = .ok (.iconst 1, 1) := by decide +kernel
theorem dX5_cut_26 : decode cX5_cut 26 = .ok (.isub, 1) := by decide +kernel
theorem dX5_cut_27 : decode cX5_cut 27 = .ok (.istore_n 2, 1) := by decide +kernel
theorem dX5_cut_28 : decode cX5_cut 28 = .ok (.iconst (-1), 1) := by decide +kernel
theorem dX5_cut_29 : decode cX5_cut 29 = .ok (.istore_n 3, 1) := by decide +kernel
theorem dX5_cut_30 : decode cX5_cut 30 = .ok (.iconst 0, 1) := by decide +kernel
theorem dX5_cut_31 : decode cX5_cut 31 = .ok (.istore 4, 2) := by decide +kernel
theorem dX5_cut_33 : decode cX5_cut 33 = .ok (.iload 4, 2) := by decide +kernel
theorem dX5_cut_35 : decode cX5_cut 35 = .ok (.iload_n 2, 1) := by decide +kernel
theorem dX5_cut_36 : decode cX5_cut 36 = .ok (.if_icmp .gt 55, 3) := by decide +kernel
theorem dX5_cut_39 : decode cX5_cut 39 = .ok (.iload_n 3, 1) := by decide +kernel
theorem dX5_cut_40 : decode cX5_cut 40 = .ok (.ifCond .lt 15, 3) := by decide +kernel
theorem dX5_cut_43 : decode cX5_cut 43 = .ok (.iload 4, 2) := by decide +kernel
theorem dX5_cut_45 : decode cX5_cut 45 = .ok (.invokestatic 146, 3) := by decide +kernel
theorem dX5_cut_48 : decode cX5_cut 48 = .ok (.iload_n 3, 1) := by decide +kernel
theorem dX5_cut_49 : decode cX5_cut 49 = .ok (.invokestatic 146, 3) := by decide +kernel
theorem dX5_cut_52 : decode cX5_cut 52 = .ok (.if_icmp .ge 7, 3) := by decide +kernel
theorem dX5_cut_55 : decode cX5_cut 55 = .ok (.iconst 1, 1) := by decide +kernel
theorem dX5_cut_56 : decode cX5_cut 56 = .ok (.goto 4, 3) := by decide +kernel
theorem dX5_cut_59 : decode cX5_cut 59 = .ok (.iconst 0, 1) := by decide +kernel
theorem dX5_cut_60 : decode cX5_cut 60 = .ok (.istore 5, 2) := by decide +kernel
theorem dX5_cut_62 : decode cX5_cut 62 = .ok (.iload 5, 2) := by decide +kernel
theorem dX5_cut_64 : decode cX5_cut 64 = .ok (.ifCond .eq 19, 3) := by decide +kernel
theorem dX5_cut_67 : decode cX5_cut 67 = .ok (.aload_n 0, 1) := by decide +kernel
theorem dX5_cut_68 : decode cX5_cut 68 = .ok (.iload 4, 2) := by decide +kernel
theorem dX5_cut_70 : decode cX5_cut 70 = .ok (.iload_n 1, 1) := by decide +kernel
theorem dX5_cut_71 : decode cX5_cut 71 = .ok (.invokevirtual 220, 3) := by decide +kernel
theorem dX5_cut_74 : decode cX5_cut 74 = .ok (.iload_n 2, 1) := by decide +kernel
theorem dX5_cut_75 : decode cX5_cut 75 = .ok (.if_icmp .ne 8, 3) := by decide +kernel
theorem dX5_cut_78 : decode cX5_cut 78 = .ok (.iload 4, 2) := by decide +kernel
theorem dX5_cut_80 : decode cX5_cut 80 = .ok (.goto 4, 3) := by decide +kernel
theorem dX5_cut_83 : decode cX5_cut 83 = .ok (.iload_n 3, 1) := by decide +kernel
theorem dX5_cut_84 : decode cX5_cut 84 = .ok (.istore_n 3, 1) := by decide +kernel
theorem dX5_cut_85 : decode cX5_cut 85 = .ok (.iinc 4 1, 3) := by decide +kernel
theorem dX5_cut_88 : decode cX5_cut 88 = .ok (.goto (-55), 3) := by decide +kernel
theorem dX5_cut_91 : decode cX5_cut 91 = .ok (.aload_n 0, 1) := by decide +kernel
theorem dX5_cut_92 : decode cX5_cut 92 = .ok (.iload_n 3, 1) := by decide +kernel
theorem dX5_cut_93 : decode cX5_cut 93 = .ok (.invokevirtual 180, 3) := by decide +kernel
theorem dX5_cut_96 : decode cX5_cut 96 = .ok (.ireturn, 1) := by decide +kernel
set_option maxHeartbeats 4000000 in
set_option maxRecDepth 100000 in
theorem g_X5_cut {E : fh_E} {M : fh_M} (C : fh_Cx E M cX5_cut 6 RX5 ((some FieldType.int)) rm_X5_cut) (Hr : fh_Rt E M) (k1 : Nat) (a2 : Int32) (σ3 : fh_S) : fh_Go E M 6 fh_vI 0 [(0, .ref (fh_ad E k1)), (1, .int a2)] [] σ3 (f_X5_cut k1 a2 σ3) := by
  have hok := fh_cok C
  refine go_ob ?_
  refine go_iload_n C 1 rfl rfl dX5_cut_0 ?_
  refine go_iconst C (0 : Int32) dX5_cut_1 rfl ?_
  refine go_bipush C (100 : Int32) dX5_cut_2 rfl ?_
  refine go_callSI C (st := []) [.int a2, .int ((0 : Int32)), .int ((100 : Int32))] (m_X5_within E _ hok a2 ((0 : Int32)) ((100 : Int32)) σ3) rfl ⟨q_817, q_818, q_6, q_819⟩ pd_X5_within rfl ⟨⟨Nat.le_of_ble_eq_true rfl, Nat.le_of_ble_eq_true rfl⟩, rfl, rfl⟩ (Nat.le_of_ble_eq_true rfl) dX5_cut_4 (fun r5 σ4 => ?_)
  refine go_if_ne (tgt := 17) C dX5_cut_7 rfl (fun _ => ?_) (fun _ => ?_)
  · refine go_iconst C (1 : Int32) dX5_cut_17 rfl ?_
    refine go_aload_n C 0 rfl rfl dX5_cut_18 ?_
    refine go_gr (ci := 5) (j := 0) C fh_in5 rfl (by decide) rfl q_746 dX5_cut_19 (fun k6 => ?_)
    refine go_iconst C (1 : Int32) dX5_cut_22 rfl ?_
    refine go_iald C dX5_cut_23 (fun v7 => ?_)
    refine go_ishl C dX5_cut_24 ?_
    refine go_iconst C (1 : Int32) dX5_cut_25 rfl ?_
    refine go_isub C dX5_cut_26 ?_
    refine go_istore_n C [(2, .int ((((1 : Int32)) <<< (v7 &&& 31)) - ((1 : Int32)))), (0, .ref (fh_ad E k1)), (1, .int a2)] rfl rfl (by decide) dX5_cut_27 ?_
    refine go_iconst C (-1 : Int32) dX5_cut_28 rfl ?_
    refine go_istore_n C [(3, .int ((-1 : Int32))), (2, .int ((((1 : Int32)) <<< (v7 &&& 31)) - ((1 : Int32)))), (0, .ref (fh_ad E k1)), (1, .int a2)] rfl rfl (by decide) dX5_cut_29 ?_
    refine go_iconst C (0 : Int32) dX5_cut_30 rfl ?_
    refine go_istore C [(4, .int ((0 : Int32))), (3, .int ((-1 : Int32))), (2, .int ((((1 : Int32)) <<< (v7 &&& 31)) - ((1 : Int32)))), (0, .ref (fh_ad E k1)), (1, .int a2)] rfl (by decide) dX5_cut_31 ?_
    refine go_lv [3, 4, 2, 1, 0] (lv' := [(0, .ref (fh_ad E k1)), (1, .int a2), (2, .int ((((1 : Int32)) <<< (v7 &&& 31)) - ((1 : Int32)))), (3, .int ((-1 : Int32))), (4, .int ((0 : Int32)))]) rfl ?_
    refine go_fx (fun (r11 : Int32 → Int32 → fh_S → Option (Int32 × fh_S)) => ∀ (x8 : Int32) (x9 : Int32) (σ10 : fh_S), fh_Go E M 6 fh_vI 33 [(0, .ref (fh_ad E k1)), (1, .int a2), (2, .int ((((1 : Int32)) <<< (v7 &&& 31)) - ((1 : Int32)))), (3, .int x8), (4, .int x9)] [] σ10 (r11 x8 x9 σ10)) ?_ ?_ fh_fu ((-1 : Int32)) ((0 : Int32)) σ4
    · intro x8 x9 σ10
      exact go_none
    · intro r11 hr11 x8 x9 σ10
      refine go_iload C 4 rfl dX5_cut_33 ?_
      refine go_iload_n C 2 rfl rfl dX5_cut_35 ?_
      refine go_icmp_gt (tgt := 91) C dX5_cut_36 rfl (fun _ => ?_) (fun _ => ?_)
      · refine go_aload_n C 0 rfl rfl dX5_cut_91 ?_
        refine go_iload_n C 3 rfl rfl dX5_cut_92 ?_
        refine go_callVI C (st := []) [.int x8] (m_X5_orNone E _ hok k1 x8 σ10) (fun _ h => fh_ob_ok h) rfl rfl ⟨q_980, q_982, qs_41, q_6, q_983⟩ pd_X5_orNone rfl ⟨⟨Nat.le_of_ble_eq_true rfl, Nat.le_of_ble_eq_true rfl⟩, rfl, rfl⟩ (Nat.le_of_ble_eq_true rfl) dX5_cut_93 (fun r13 σ12 => ?_)
        exact go_iret C Hr rfl dX5_cut_96
      · refine go_iload_n C 3 rfl rfl dX5_cut_39 ?_
        refine go_jn (fun (j23 : Int32 → fh_S → Option (Int32 × fh_S)) => ∀ (x14 : Int32) (σ15 : fh_S), fh_Go E M 6 fh_vI 60 [(0, .ref (fh_ad E k1)), (1, .int a2), (2, .int ((((1 : Int32)) <<< (v7 &&& 31)) - ((1 : Int32)))), (3, .int x8), (4, .int x9)] [.int x14] σ15 (j23 x14 σ15)) ?_ (fun j23 hj23 => ?_)
        · intro x14 σ15
          refine go_istore C [(5, .int x14), (0, .ref (fh_ad E k1)), (1, .int a2), (2, .int ((((1 : Int32)) <<< (v7 &&& 31)) - ((1 : Int32)))), (3, .int x8), (4, .int x9)] rfl (by decide) dX5_cut_60 ?_
          refine go_iload C 0 rfl dX5_cut_62 ?_
          refine go_jn (fun (j18 : Int32 → fh_S → Option (Int32 × fh_S)) => ∀ (x16 : Int32) (σ17 : fh_S), fh_Go E M 6 fh_vI 84 [(0, .ref (fh_ad E k1)), (1, .int a2), (2, .int ((((1 : Int32)) <<< (v7 &&& 31)) - ((1 : Int32)))), (4, .int x9)] [.int x16] σ17 (j18 x16 σ17)) ?_ (fun j18 hj18 => ?_)
          · intro x16 σ17
            refine go_istore_n C [(3, .int x16), (0, .ref (fh_ad E k1)), (1, .int a2), (2, .int ((((1 : Int32)) <<< (v7 &&& 31)) - ((1 : Int32)))), (4, .int x9)] rfl rfl (by decide) dX5_cut_84 ?_
            refine go_iinc C (x9 + 1) 4 [(4, .int (x9 + 1)), (3, .int x16), (0, .ref (fh_ad E k1)), (1, .int a2), (2, .int ((((1 : Int32)) <<< (v7 &&& 31)) - ((1 : Int32))))] rfl rfl rfl (by decide) dX5_cut_85 ?_
            refine go_goto C 33 dX5_cut_88 rfl ?_
            refine go_lv [2, 3, 4, 1, 0] (lv' := [(0, .ref (fh_ad E k1)), (1, .int a2), (2, .int ((((1 : Int32)) <<< (v7 &&& 31)) - ((1 : Int32)))), (3, .int x16), (4, .int (x9 + 1))]) rfl ?_
            exact hr11 x16 (x9 + 1) σ17
          refine go_jn (fun (j20 : fh_S → Option (Int32 × fh_S)) => ∀ (σ19 : fh_S), fh_Go E M 6 fh_vI 83 [(0, .ref (fh_ad E k1)), (1, .int a2), (2, .int ((((1 : Int32)) <<< (v7 &&& 31)) - ((1 : Int32)))), (3, .int x8), (4, .int x9)] [] σ19 (j20 σ19)) ?_ (fun j20 hj20 => ?_)
          · intro σ19
            refine go_iload_n C 3 rfl rfl dX5_cut_83 ?_
            refine go_lv [0, 1, 2, 4] (lv' := [(0, .ref (fh_ad E k1)), (1, .int a2), (2, .int ((((1 : Int32)) <<< (v7 &&& 31)) - ((1 : Int32)))), (4, .int x9)]) rfl ?_
            exact hj18 x8 σ19
          refine go_if_eq (tgt := 83) C dX5_cut_64 rfl (fun _ => ?_) (fun _ => ?_)
          · refine go_lv [1, 2, 3, 4, 5] (lv' := [(0, .ref (fh_ad E k1)), (1, .int a2), (2, .int ((((1 : Int32)) <<< (v7 &&& 31)) - ((1 : Int32)))), (3, .int x8), (4, .int x9)]) rfl ?_
            exact hj20 σ15
          · refine go_aload_n C 1 rfl rfl dX5_cut_67 ?_
            refine go_iload C 5 rfl dX5_cut_68 ?_
            refine go_iload_n C 2 rfl rfl dX5_cut_70 ?_
            refine go_callVI C (st := []) [.int x9, .int a2] (m_X5_stillWith E _ hok k1 x9 a2 σ15) (fun _ h => fh_ob_ok h) rfl rfl ⟨q_1089, q_1091, qs_51, q_6, q_1092⟩ pd_X5_stillWith rfl ⟨⟨Nat.le_of_ble_eq_true rfl, Nat.le_of_ble_eq_true rfl⟩, rfl, rfl⟩ (Nat.le_of_ble_eq_true rfl) dX5_cut_71 (fun r22 σ21 => ?_)
            refine go_iload_n C 3 rfl rfl dX5_cut_74 ?_
            refine go_icmp_ne (tgt := 83) C dX5_cut_75 rfl (fun _ => ?_) (fun _ => ?_)
            · refine go_lv [1, 2, 3, 4, 5] (lv' := [(0, .ref (fh_ad E k1)), (1, .int a2), (2, .int ((((1 : Int32)) <<< (v7 &&& 31)) - ((1 : Int32)))), (3, .int x8), (4, .int x9)]) rfl ?_
              exact hj20 σ21
            · refine go_iload C 5 rfl dX5_cut_78 ?_
              refine go_goto C 84 dX5_cut_80 rfl ?_
              refine go_lv [1, 2, 3, 5] (lv' := [(0, .ref (fh_ad E k1)), (1, .int a2), (2, .int ((((1 : Int32)) <<< (v7 &&& 31)) - ((1 : Int32)))), (4, .int x9)]) rfl ?_
              exact hj18 x9 σ21
        refine go_jn (fun (j25 : fh_S → Option (Int32 × fh_S)) => ∀ (σ24 : fh_S), fh_Go E M 6 fh_vI 55 [(0, .ref (fh_ad E k1)), (1, .int a2), (2, .int ((((1 : Int32)) <<< (v7 &&& 31)) - ((1 : Int32)))), (3, .int x8), (4, .int x9)] [] σ24 (j25 σ24)) ?_ (fun j25 hj25 => ?_)
        · intro σ24
          refine go_iconst C (1 : Int32) dX5_cut_55 rfl ?_
          refine go_goto C 60 dX5_cut_56 rfl ?_
          exact hj23 ((1 : Int32)) σ24
        refine go_if_lt (tgt := 55) C dX5_cut_40 rfl (fun _ => ?_) (fun _ => ?_)
        · exact hj25 σ10
        · refine go_iload C 4 rfl dX5_cut_43 ?_
          refine go_callSI C (st := []) [.int x9] (m_X5_bits E _ hok x9 σ10) rfl ⟨q_934, q_935, q_6, q_936⟩ pd_X5_bits rfl ⟨⟨Nat.le_of_ble_eq_true rfl, Nat.le_of_ble_eq_true rfl⟩, rfl, rfl⟩ (Nat.le_of_ble_eq_true rfl) dX5_cut_45 (fun r27 σ26 => ?_)
          refine go_iload_n C 3 rfl rfl dX5_cut_48 ?_
          refine go_callSI C (st := [.int r27]) [.int x8] (m_X5_bits E _ hok x8 σ26) rfl ⟨q_934, q_935, q_6, q_936⟩ pd_X5_bits rfl ⟨⟨Nat.le_of_ble_eq_true rfl, Nat.le_of_ble_eq_true rfl⟩, rfl, rfl⟩ (Nat.le_of_ble_eq_true rfl) dX5_cut_49 (fun r29 σ28 => ?_)
          refine go_icmp_ge (tgt := 59) C dX5_cut_52 rfl (fun _ => ?_) (fun _ => ?_)
          · refine go_iconst C (0 : Int32) dX5_cut_59 rfl ?_
            exact hj23 ((0 : Int32)) σ28
          · exact hj25 σ28
  · refine go_aload_n C 0 rfl rfl dX5_cut_10 ?_
    refine go_ldc C q_820 dX5_cut_11 ?_
    refine go_callVI C (st := []) [.int ((-1000001 : Int32))] (m_X5_finding E _ hok k1 ((-1000001 : Int32)) σ4) (fun _ h => fh_ob_ok h) rfl rfl ⟨q_821, q_823, qs_19, q_6, q_824⟩ pd_X5_finding rfl ⟨⟨Nat.le_of_ble_eq_true rfl, Nat.le_of_ble_eq_true rfl⟩, rfl, rfl⟩ (Nat.le_of_ble_eq_true rfl) dX5_cut_13 (fun r31 σ30 => ?_)
    exact go_iret C Hr rfl dX5_cut_16
theorem m_X5_cut (E : fh_E) (l : Launch) (hok : fh_ok E) (k1 : Nat) (a2 : Int32) (σ3 : fh_S) : fh_Met E l yX5_cut cX5_cut 6 ((some FieldType.int)) rm_X5_cut fh_vI [.ref (fh_ad E k1), .int a2] σ3 (f_X5_cut k1 a2 σ3) := fh_met hok (by decide +kernel) (Nat.le_of_ble_eq_true rfl) (fun M _ C Hr => g_X5_cut C Hr k1 a2 σ3)
def f_X5_drawn (k1 : Nat) (σ2 : fh_S) : Option (Int32 × fh_S) := fh_ob 5 k1 ((fh_gr 5 k1 0).bind fun k3 => (fh_gr 5 k1 0).bind fun k4 => (fh_ld σ2 k4 ((2 : Int32))).bind fun v5 => (fh_st σ2 k3 ((2 : Int32)) ((v5 * ((1103515245 : Int32))) + ((12345 : Int32)))).bind fun σ6 => (fh_gr 5 k1 0).bind fun k7 => (fh_ld σ6 k7 ((2 : Int32))).bind fun v8 => some ((v8.toUInt32 >>> (((8 : Int32)).toUInt32 &&& Int32.toUInt32 31)).toInt32, σ6))
abbrev rm_X5_drawn : Room := { frames := 0, cells := 0, slots := 0, locals := 0 }
theorem pd_X5_drawn : yX5_drawn.cls ≠ "java/lang/invoke/MethodHandle" ∧ yX5_drawn.cls ≠ "java/lang/invoke/VarHandle" ∧ (parseMethodDescriptor yX5_drawn.desc).map (fun d => d.parameters.length) = some 0 := by decide +kernel
theorem dX5_drawn_0 : decode cX5_drawn 0 = .ok (.aload_n 0, 1) := by decide +kernel
theorem dX5_drawn_1 : decode cX5_drawn 1 = .ok (.getfield 9, 3) := by decide +kernel
theorem dX5_drawn_4 : decode cX5_drawn 4 = .ok (.iconst 2, 1) := by decide +kernel
theorem dX5_drawn_5 : decode cX5_drawn 5 = .ok (.aload_n 0, 1) := by decide +kernel
theorem dX5_drawn_6 : decode cX5_drawn 6 = .ok (.getfield 9, 3) := by decide +kernel
theorem dX5_drawn_9 : decode cX5_drawn 9 = .ok (.iconst 2, 1) := by decide +kernel
theorem dX5_drawn_10 : decode cX5_drawn 10 = .ok (.iaload, 1) := by decide +kernel
theorem dX5_drawn_11 : decode cX5_drawn 11 = .ok (.ldc 223, 2) := by decide +kernel
theorem dX5_drawn_13 : decode cX5_drawn 13 = .ok (.imul, 1) := by decide +kernel
theorem dX5_drawn_14 : decode cX5_drawn 14 = .ok (.sipush 12345, 3) := by decide +kernel
theorem dX5_drawn_17 : decode cX5_drawn 17 = .ok (.iadd, 1) := by decide +kernel
theorem dX5_drawn_18 : decode cX5_drawn 18 = .ok (.iastore, 1) := by decide +kernel
theorem dX5_drawn_19 : decode cX5_drawn 19 = .ok (.aload_n 0, 1) := by decide +kernel
theorem dX5_drawn_20 : decode cX5_drawn 20 = .ok (.getfield 9, 3) := by decide +kernel
theorem dX5_drawn_23 : decode cX5_drawn 23 = .ok (.iconst 2, 1) := by decide +kernel
theorem dX5_drawn_24 : decode cX5_drawn 24 = .ok (.iaload, 1) := by decide +kernel
theorem dX5_drawn_25 : decode cX5_drawn 25 = .ok (.bipush 8, 2) := by decide +kernel
theorem dX5_drawn_27 : decode cX5_drawn 27 = .ok (.iushr, 1) := by decide +kernel
theorem dX5_drawn_28 : decode cX5_drawn 28 = .ok (.ireturn, 1) := by decide +kernel
set_option maxHeartbeats 4000000 in
set_option maxRecDepth 100000 in
theorem g_X5_drawn {E : fh_E} {M : fh_M} (C : fh_Cx E M cX5_drawn 1 RX5 ((some FieldType.int)) rm_X5_drawn) (Hr : fh_Rt E M) (k1 : Nat) (σ2 : fh_S) : fh_Go E M 1 fh_vI 0 [(0, .ref (fh_ad E k1))] [] σ2 (f_X5_drawn k1 σ2) := by
  have hok := fh_cok C
  refine go_ob ?_
  refine go_aload_n C 0 rfl rfl dX5_drawn_0 ?_
  refine go_gr (ci := 5) (j := 0) C fh_in5 rfl (by decide) rfl q_746 dX5_drawn_1 (fun k3 => ?_)
  refine go_iconst C (2 : Int32) dX5_drawn_4 rfl ?_
  refine go_aload_n C 0 rfl rfl dX5_drawn_5 ?_
  refine go_gr (ci := 5) (j := 0) C fh_in5 rfl (by decide) rfl q_746 dX5_drawn_6 (fun k4 => ?_)
  refine go_iconst C (2 : Int32) dX5_drawn_9 rfl ?_
  refine go_iald C dX5_drawn_10 (fun v5 => ?_)
  refine go_ldc C q_1109 dX5_drawn_11 ?_
  refine go_imul C dX5_drawn_13 ?_
  refine go_sipush C (12345 : Int32) dX5_drawn_14 rfl ?_
  refine go_iadd C dX5_drawn_17 ?_
  refine go_iast C dX5_drawn_18 (fun σ6 => ?_)
  refine go_aload_n C 0 rfl rfl dX5_drawn_19 ?_
  refine go_gr (ci := 5) (j := 0) C fh_in5 rfl (by decide) rfl q_746 dX5_drawn_20 (fun k7 => ?_)
  refine go_iconst C (2 : Int32) dX5_drawn_23 rfl ?_
  refine go_iald C dX5_drawn_24 (fun v8 => ?_)
  refine go_bipush C (8 : Int32) dX5_drawn_25 rfl ?_
  refine go_iushr C dX5_drawn_27 ?_
  exact go_iret C Hr rfl dX5_drawn_28
theorem m_X5_drawn (E : fh_E) (l : Launch) (hok : fh_ok E) (k1 : Nat) (σ2 : fh_S) : fh_Met E l yX5_drawn cX5_drawn 1 ((some FieldType.int)) rm_X5_drawn fh_vI [.ref (fh_ad E k1)] σ2 (f_X5_drawn k1 σ2) := fh_met hok (by decide +kernel) (Nat.le_of_ble_eq_true rfl) (fun M _ C Hr => g_X5_drawn C Hr k1 σ2)
def f_X5_frosts_J86 (r19 : Int32 → Int32 → fh_S → Option (Int32 × fh_S)) (x16 : Int32) (x17 : Int32) : Int32 → fh_S → Option (Int32 × fh_S) := fun x25 σ26 => r19 (x16 + x25) (x17 + 1) σ26
def f_X5_frosts_J85 (j27 : Int32 → fh_S → Option (Int32 × fh_S)) : fh_S → Option (Int32 × fh_S) := fun σ28 => j27 ((0 : Int32)) σ28
def f_X5_frosts_B49 (k1 : Nat) (r11 : Int32 → Int32 → fh_S → Option (Int32 × fh_S)) (x9 : Int32) (r19 : Int32 → Int32 → fh_S → Option (Int32 × fh_S)) : Int32 → Int32 → fh_S → Option (Int32 × fh_S) := fun x16 x17 σ18 => (fh_gr 5 k1 0).bind fun k20 => (fh_ld σ18 k20 ((1 : Int32))).bind fun v21 => if v21 ≤ x17 then fh_cb (f_X5_tick k1 σ18) fun _ σ22 => r11 x16 (x9 + 1) σ22 else fh_cb (f_X5_drawn k1 σ18) fun r24 σ23 => fh_jn (f_X5_frosts_J86 r19 x16 x17) (fun j27 => fh_jn (f_X5_frosts_J85 j27) (fun j29 => if (r24 - r24 / ((16 : Int32)) * ((16 : Int32))) = 0 then fh_cb (f_X5_stops k1 x17 ((1 : Int32)) σ23) fun r31 σ30 => if r31 = 0 then j29 σ30 else j27 ((1 : Int32)) σ30 else j29 σ23))
def f_X5_frosts_B41 (a2 : Int32) (k1 : Nat) (r11 : Int32 → Int32 → fh_S → Option (Int32 × fh_S)) : Int32 → Int32 → fh_S → Option (Int32 × fh_S) := fun x8 x9 σ10 => if a2 ≤ x9 then if 0 ≤ x8 then fh_cb (f_X5_stoppedNow k1 σ10) fun r13 σ12 => fh_cb (f_X5_bits r13 σ12) fun r15 σ14 => some (r15, σ14) else some ((0 : Int32), σ10) else fh_fx (ρ := Int32 → Int32 → fh_S → Option (Int32 × fh_S)) (fun _ _ _ => none) (f_X5_frosts_B49 k1 r11 x9) fh_fu x8 ((0 : Int32)) σ10
def f_X5_frosts (k1 : Nat) (a2 : Int32) (σ3 : fh_S) : Option (Int32 × fh_S) := fh_ob 5 k1 (fh_cb (f_X5_within a2 ((1 : Int32)) ((20 : Int32)) σ3) fun r5 σ4 => if r5 = 0 then fh_cb (f_X5_finding k1 ((-1000001 : Int32)) σ4) fun r35 σ34 => some (r35, σ34) else (fh_gr 5 k1 0).bind fun k6 => (fh_ld σ4 k6 ((0 : Int32))).bind fun v7 => if (v7 + a2) ≤ ((99999 : Int32)) then fh_fx (ρ := Int32 → Int32 → fh_S → Option (Int32 × fh_S)) (fun _ _ _ => none) (f_X5_frosts_B41 a2 k1) fh_fu ((0 : Int32)) ((0 : Int32)) σ4 else fh_cb (f_X5_finding k1 ((-1000005 : Int32)) σ4) fun r33 σ32 => some (r33, σ32))
abbrev rm_X5_frosts : Room := { frames := 6, cells := 0, slots := 0, locals := 132 }
theorem pd_X5_frosts : yX5_frosts.cls ≠ "java/lang/invoke/MethodHandle" ∧ yX5_frosts.cls ≠ "java/lang/invoke/VarHandle" ∧ (parseMethodDescriptor yX5_frosts.desc).map (fun d => d.parameters.length) = some 1 := by decide +kernel
theorem dX5_frosts_0 : decode cX5_frosts 0 = .ok (.iload_n 1, 1) := by decide +kernel
theorem dX5_frosts_1 : decode cX5_frosts 1 = .ok (.iconst 1, 1) := by decide +kernel
theorem dX5_frosts_2 : decode cX5_frosts 2 = .ok (.bipush 20, 2) := by decide +kernel
theorem dX5_frosts_4 : decode cX5_frosts 4 = .ok (.invokestatic 73, 3) := by decide +kernel
theorem dX5_frosts_7 : decode cX5_frosts 7 = .ok (.ifCond .ne 10, 3) := by decide +kernel
theorem dX5_frosts_10 : decode cX5_frosts 10 = .ok (.aload_n 0, 1) := by decide +kernel
theorem dX5_frosts_11 : decode cX5_frosts 11 = .ok (.ldc 63, 2) := by decide +kernel
theorem dX5_frosts_13 : decode cX5_frosts 13 = .ok (.invokevirtual 69, 3) := by decide +kernel
theorem dX5_frosts_16 : decode cX5_frosts 16 = .ok (.ireturn, 1) := by decide +kernel
theorem dX5_frosts_17 : decode cX5_frosts 17 = .ok (.aload_n 0, 1) := by decide +kernel
theorem dX5_frosts_18 : decode cX5_frosts 18 = .ok (.getfield 9, 3) := by decide +kernel
theorem dX5_frosts_21 : decode cX5_frosts 21 = .ok (.iconst 0, 1) := by decide +kernel
theorem dX5_frosts_22 : decode cX5_frosts 22 = .ok (.iaload, 1) := by decide +kernel
theorem dX5_frosts_23 : decode cX5_frosts 23 = .ok (.iload_n 1, 1) := by decide +kernel
theorem dX5_frosts_24 : decode cX5_frosts 24 = .ok (.iadd, 1) := by decide +kernel
theorem dX5_frosts_25 : decode cX5_frosts 25 = .ok (.ldc 137, 2) := by decide +kernel
theorem dX5_frosts_27 : decode cX5_frosts 27 = .ok (.if_icmp .le 10, 3) := by decide +kernel
theorem dX5_frosts_30 : decode cX5_frosts 30 = .ok (.aload_n 0, 1) := by decide +kernel
theorem dX5_frosts_31 : decode cX5_frosts 31 = .ok (.ldc 138, 2) := by decide +kernel
theorem dX5_frosts_33 : decode cX5_frosts 33 = .ok (.invokevirtual 69, 3) := by decide +kernel
theorem dX5_frosts_36 : decode cX5_frosts 36 = .ok (.ireturn, 1) := by decide +kernel
theorem dX5_frosts_37 : decode cX5_frosts 37 = .ok (.iconst 0, 1) := by decide +kernel
theorem dX5_frosts_38 : decode cX5_frosts 38 = .ok (.istore_n 2, 1) := by decide +kernel
theorem dX5_frosts_39 : decode cX5_frosts 39 = .ok (.iconst 0, 1) := by decide +kernel
theorem dX5_frosts_40 : decode cX5_frosts 40 = .ok (.istore_n 3, 1) := by decide +kernel
theorem dX5_frosts_41 : decode cX5_frosts 41 = .ok (.iload_n 3, 1) := by decide +kernel
theorem dX5_frosts_42 : decode cX5_frosts 42 = .ok (.iload_n 1, 1) := by decide +kernel
theorem dX5_frosts_43 : decode cX5_frosts 43 = .ok (.if_icmp .ge 61, 3) := by decide +kernel
theorem dX5_frosts_46 : decode cX5_frosts 46 = .ok (.iconst 0, 1) := by decide +kernel
theorem dX5_frosts_47 : decode cX5_frosts 47 = .ok (.istore 4, 2) := by decide +kernel
theorem dX5_frosts_49 : decode cX5_frosts 49 = .ok (.iload 4, 2) := by decide +kernel
theorem dX5_frosts_51 : decode cX5_frosts 51 = .ok (.aload_n 0, 1) := by decide +kernel
theorem dX5_frosts_52 : decode cX5_frosts 52 = .ok (.getfield 9, 3) := by decide +kernel
theorem dX5_frosts_55 : decode cX5_frosts 55 = .ok (.iconst 1, 1) := by decide +kernel
theorem dX5_frosts_56 : decode cX5_frosts 56 = .ok (.iaload, 1) := by decide +kernel
theorem dX5_frosts_57 : decode cX5_frosts 57 = .ok (.if_icmp .ge 37, 3) := by decide +kernel
theorem dX5_frosts_60 : decode cX5_frosts 60 = .ok (.iload_n 2, 1) := by decide +kernel
theorem dX5_frosts_61 : decode cX5_frosts 61 = .ok (.aload_n 0, 1) := by decide +kernel
theorem dX5_frosts_62 : decode cX5_frosts 62 = .ok (.invokevirtual 224, 3) := by decide +kernel
theorem dX5_frosts_65 : decode cX5_frosts 65 = .ok (.bipush 16, 2) := by decide +kernel
theorem dX5_frosts_67 : decode cX5_frosts 67 = .ok (.irem, 1) := by decide +kernel
theorem dX5_frosts_68 : decode cX5_frosts 68 = .ok (.ifCond .ne 17, 3) := by decide +kernel
theorem dX5_frosts_71 : decode cX5_frosts 71 = .ok (.aload_n 0, 1) := by decide +kernel
theorem dX5_frosts_72 : decode cX5_frosts 72 = .ok (.iload 4, 2) := by decide +kernel
theorem dX5_frosts_74 : decode cX5_frosts 74 = .ok (.iconst 1, 1) := by decide +kernel
theorem dX5_frosts_75 : decode cX5_frosts 75 = .ok (.invokevirtual 131, 3) := by decide +kernel
theorem dX5_frosts_78 : decode cX5_frosts 78 = .ok (.ifCond .eq 7, 3) := by decide +kernel
theorem dX5_frosts_81 : decode cX5_frosts 81 = .ok (.iconst 1, 1) := by decide +kernel
theorem dX5_frosts_82 : decode cX5_frosts 82 = .ok (.goto 4, 3) := by decide +kernel
theorem dX5_frosts_85 : decode cX5_frosts 85 = .ok (.iconst 0, 1) := by decide +kernel
theorem dX5_frosts_86 : decode cX5_frosts 86 = .ok (.iadd, 1) := by decide +kernel
theorem dX5_frosts_87 : decode cX5_frosts 87 = .ok (.istore_n 2, 1) := by decide +kernel
theorem dX5_frosts_88 : decode cX5_frosts 88 = .ok (.iinc 4 1, 3) := by decide +kernel
theorem dX5_frosts_91 : decode cX5_frosts 91 = .ok (.goto (-42), 3) := by decide +kernel
theorem dX5_frosts_94 : decode cX5_frosts 94 = .ok (.aload_n 0, 1) := by decide +kernel
theorem dX5_frosts_95 : decode cX5_frosts 95 = .ok (.invokevirtual 134, 3) := by decide +kernel
theorem dX5_frosts_98 : decode cX5_frosts 98 = .ok (.iinc 3 1, 3) := by decide +kernel
theorem dX5_frosts_101 : decode cX5_frosts 101 = .ok (.goto (-60), 3) := by decide +kernel
theorem dX5_frosts_104 : decode cX5_frosts 104 = .ok (.iload_n 2, 1) := by decide +kernel
theorem dX5_frosts_105 : decode cX5_frosts 105 = .ok (.ifCond .ge 7, 3) := by decide +kernel
theorem dX5_frosts_108 : decode cX5_frosts 108 = .ok (.iconst 0, 1) := by decide +kernel
theorem dX5_frosts_109 : decode cX5_frosts 109 = .ok (.goto 10, 3) := by decide +kernel
theorem dX5_frosts_112 : decode cX5_frosts 112 = .ok (.aload_n 0, 1) := by decide +kernel
theorem dX5_frosts_113 : decode cX5_frosts 113 = .ok (.invokevirtual 149, 3) := by decide +kernel
theorem dX5_frosts_116 : decode cX5_frosts 116 = .ok (.invokestatic 146, 3) := by decide +kernel
theorem dX5_frosts_119 : decode cX5_frosts 119 = .ok (.ireturn, 1) := by decide +kernel
set_option maxHeartbeats 4000000 in
set_option maxRecDepth 100000 in
theorem g_X5_frosts {E : fh_E} {M : fh_M} (C : fh_Cx E M cX5_frosts 5 RX5 ((some FieldType.int)) rm_X5_frosts) (Hr : fh_Rt E M) (k1 : Nat) (a2 : Int32) (σ3 : fh_S) : fh_Go E M 5 fh_vI 0 [(0, .ref (fh_ad E k1)), (1, .int a2)] [] σ3 (f_X5_frosts k1 a2 σ3) := by
  have hok := fh_cok C
  refine go_ob ?_
  refine go_iload_n C 1 rfl rfl dX5_frosts_0 ?_
  refine go_iconst C (1 : Int32) dX5_frosts_1 rfl ?_
  refine go_bipush C (20 : Int32) dX5_frosts_2 rfl ?_
  refine go_callSI C (st := []) [.int a2, .int ((1 : Int32)), .int ((20 : Int32))] (m_X5_within E _ hok a2 ((1 : Int32)) ((20 : Int32)) σ3) rfl ⟨q_817, q_818, q_6, q_819⟩ pd_X5_within rfl ⟨⟨Nat.le_of_ble_eq_true rfl, Nat.le_of_ble_eq_true rfl⟩, rfl, rfl⟩ (Nat.le_of_ble_eq_true rfl) dX5_frosts_4 (fun r5 σ4 => ?_)
  refine go_if_ne (tgt := 17) C dX5_frosts_7 rfl (fun _ => ?_) (fun _ => ?_)
  · refine go_aload_n C 0 rfl rfl dX5_frosts_17 ?_
    refine go_gr (ci := 5) (j := 0) C fh_in5 rfl (by decide) rfl q_746 dX5_frosts_18 (fun k6 => ?_)
    refine go_iconst C (0 : Int32) dX5_frosts_21 rfl ?_
    refine go_iald C dX5_frosts_22 (fun v7 => ?_)
    refine go_iload_n C 1 rfl rfl dX5_frosts_23 ?_
    refine go_iadd C dX5_frosts_24 ?_
    refine go_ldc C q_896 dX5_frosts_25 ?_
    refine go_icmp_le (tgt := 37) C dX5_frosts_27 rfl (fun _ => ?_) (fun _ => ?_)
    · refine go_iconst C (0 : Int32) dX5_frosts_37 rfl ?_
      refine go_istore_n C [(2, .int ((0 : Int32))), (0, .ref (fh_ad E k1)), (1, .int a2)] rfl rfl (by decide) dX5_frosts_38 ?_
      refine go_iconst C (0 : Int32) dX5_frosts_39 rfl ?_
      refine go_istore_n C [(3, .int ((0 : Int32))), (2, .int ((0 : Int32))), (0, .ref (fh_ad E k1)), (1, .int a2)] rfl rfl (by decide) dX5_frosts_40 ?_
      refine go_lv [2, 3, 1, 0] (lv' := [(0, .ref (fh_ad E k1)), (1, .int a2), (2, .int ((0 : Int32))), (3, .int ((0 : Int32)))]) rfl ?_
      refine go_fx (fun (r11 : Int32 → Int32 → fh_S → Option (Int32 × fh_S)) => ∀ (x8 : Int32) (x9 : Int32) (σ10 : fh_S), fh_Go E M 5 fh_vI 41 [(0, .ref (fh_ad E k1)), (1, .int a2), (2, .int x8), (3, .int x9)] [] σ10 (r11 x8 x9 σ10)) ?_ ?_ fh_fu ((0 : Int32)) ((0 : Int32)) σ4
      · intro x8 x9 σ10
        exact go_none
      · intro r11 hr11 x8 x9 σ10
        refine go_iload_n C 3 rfl rfl dX5_frosts_41 ?_
        refine go_iload_n C 1 rfl rfl dX5_frosts_42 ?_
        refine go_icmp_ge (tgt := 104) C dX5_frosts_43 rfl (fun _ => ?_) (fun _ => ?_)
        · refine go_iload_n C 2 rfl rfl dX5_frosts_104 ?_
          refine go_if_ge (tgt := 112) C dX5_frosts_105 rfl (fun _ => ?_) (fun _ => ?_)
          · refine go_aload_n C 0 rfl rfl dX5_frosts_112 ?_
            refine go_callVI C (st := []) [] (m_X5_stoppedNow E _ hok k1 σ10) (fun _ h => fh_ob_ok h) rfl rfl ⟨q_910, q_912, qs_31, q_6, q_913⟩ pd_X5_stoppedNow rfl ⟨⟨Nat.le_of_ble_eq_true rfl, Nat.le_of_ble_eq_true rfl⟩, rfl, rfl⟩ (Nat.le_of_ble_eq_true rfl) dX5_frosts_113 (fun r13 σ12 => ?_)
            refine go_callSI C (st := []) [.int r13] (m_X5_bits E _ hok r13 σ12) rfl ⟨q_934, q_935, q_6, q_936⟩ pd_X5_bits rfl ⟨⟨Nat.le_of_ble_eq_true rfl, Nat.le_of_ble_eq_true rfl⟩, rfl, rfl⟩ (Nat.le_of_ble_eq_true rfl) dX5_frosts_116 (fun r15 σ14 => ?_)
            exact go_iret C Hr rfl dX5_frosts_119
          · refine go_iconst C (0 : Int32) dX5_frosts_108 rfl ?_
            refine go_goto C 119 dX5_frosts_109 rfl ?_
            exact go_iret C Hr rfl dX5_frosts_119
        · refine go_iconst C (0 : Int32) dX5_frosts_46 rfl ?_
          refine go_istore C [(4, .int ((0 : Int32))), (0, .ref (fh_ad E k1)), (1, .int a2), (2, .int x8), (3, .int x9)] rfl (by decide) dX5_frosts_47 ?_
          refine go_lv [1, 2, 3, 4, 0] (lv' := [(0, .ref (fh_ad E k1)), (1, .int a2), (2, .int x8), (3, .int x9), (4, .int ((0 : Int32)))]) rfl ?_
          refine go_fx (fun (r19 : Int32 → Int32 → fh_S → Option (Int32 × fh_S)) => ∀ (x16 : Int32) (x17 : Int32) (σ18 : fh_S), fh_Go E M 5 fh_vI 49 [(0, .ref (fh_ad E k1)), (1, .int a2), (2, .int x16), (3, .int x9), (4, .int x17)] [] σ18 (r19 x16 x17 σ18)) ?_ ?_ fh_fu x8 ((0 : Int32)) σ10
          · intro x16 x17 σ18
            exact go_none
          · intro r19 hr19 x16 x17 σ18
            refine go_iload C 4 rfl dX5_frosts_49 ?_
            refine go_aload_n C 0 rfl rfl dX5_frosts_51 ?_
            refine go_gr (ci := 5) (j := 0) C fh_in5 rfl (by decide) rfl q_746 dX5_frosts_52 (fun k20 => ?_)
            refine go_iconst C (1 : Int32) dX5_frosts_55 rfl ?_
            refine go_iald C dX5_frosts_56 (fun v21 => ?_)
            refine go_icmp_ge (tgt := 94) C dX5_frosts_57 rfl (fun _ => ?_) (fun _ => ?_)
            · refine go_aload_n C 0 rfl rfl dX5_frosts_94 ?_
              refine go_callVU C (st := []) [] (m_X5_tick E _ hok k1 σ18) (fun _ h => fh_ob_ok h) rfl rfl ⟨q_902, q_904, qs_30, q_6, q_905⟩ pd_X5_tick rfl ⟨⟨Nat.le_of_ble_eq_true rfl, Nat.le_of_ble_eq_true rfl⟩, rfl, rfl⟩ (Nat.le_of_ble_eq_true rfl) dX5_frosts_95 (fun _ σ22 => ?_)
              refine go_iinc C (x9 + 1) 3 [(3, .int (x9 + 1)), (0, .ref (fh_ad E k1)), (1, .int a2), (2, .int x16), (4, .int x17)] rfl rfl rfl (by decide) dX5_frosts_98 ?_
              refine go_goto C 41 dX5_frosts_101 rfl ?_
              refine go_lv [1, 2, 3, 0] (lv' := [(0, .ref (fh_ad E k1)), (1, .int a2), (2, .int x16), (3, .int (x9 + 1))]) rfl ?_
              exact hr11 x16 (x9 + 1) σ22
            · refine go_iload_n C 2 rfl rfl dX5_frosts_60 ?_
              refine go_aload_n C 0 rfl rfl dX5_frosts_61 ?_
              refine go_callVI C (st := [.int x16]) [] (m_X5_drawn E _ hok k1 σ18) (fun _ h => fh_ob_ok h) rfl rfl ⟨q_1105, q_1107, qs_52, q_6, q_1108⟩ pd_X5_drawn rfl ⟨⟨Nat.le_of_ble_eq_true rfl, Nat.le_of_ble_eq_true rfl⟩, rfl, rfl⟩ (Nat.le_of_ble_eq_true rfl) dX5_frosts_62 (fun r24 σ23 => ?_)
              refine go_bipush C (16 : Int32) dX5_frosts_65 rfl ?_
              refine go_irem C dX5_frosts_67 (by decide) ?_
              refine go_jn (fun (j27 : Int32 → fh_S → Option (Int32 × fh_S)) => ∀ (x25 : Int32) (σ26 : fh_S), fh_Go E M 5 fh_vI 86 [(0, .ref (fh_ad E k1)), (1, .int a2), (3, .int x9), (4, .int x17)] [.int x25, .int x16] σ26 (j27 x25 σ26)) ?_ (fun j27 hj27 => ?_)
              · intro x25 σ26
                refine go_iadd C dX5_frosts_86 ?_
                refine go_istore_n C [(2, .int (x16 + x25)), (0, .ref (fh_ad E k1)), (1, .int a2), (3, .int x9), (4, .int x17)] rfl rfl (by decide) dX5_frosts_87 ?_
                refine go_iinc C (x17 + 1) 4 [(4, .int (x17 + 1)), (2, .int (x16 + x25)), (0, .ref (fh_ad E k1)), (1, .int a2), (3, .int x9)] rfl rfl rfl (by decide) dX5_frosts_88 ?_
                refine go_goto C 49 dX5_frosts_91 rfl ?_
                refine go_lv [2, 3, 1, 4, 0] (lv' := [(0, .ref (fh_ad E k1)), (1, .int a2), (2, .int (x16 + x25)), (3, .int x9), (4, .int (x17 + 1))]) rfl ?_
                exact hr19 (x16 + x25) (x17 + 1) σ26
              refine go_jn (fun (j29 : fh_S → Option (Int32 × fh_S)) => ∀ (σ28 : fh_S), fh_Go E M 5 fh_vI 85 [(0, .ref (fh_ad E k1)), (1, .int a2), (3, .int x9), (4, .int x17)] [.int x16] σ28 (j29 σ28)) ?_ (fun j29 hj29 => ?_)
              · intro σ28
                refine go_iconst C (0 : Int32) dX5_frosts_85 rfl ?_
                exact hj27 ((0 : Int32)) σ28
              refine go_if_ne (tgt := 85) C dX5_frosts_68 rfl (fun _ => ?_) (fun _ => ?_)
              · refine go_lv [0, 1, 3, 4] (lv' := [(0, .ref (fh_ad E k1)), (1, .int a2), (3, .int x9), (4, .int x17)]) rfl ?_
                exact hj29 σ23
              · refine go_aload_n C 0 rfl rfl dX5_frosts_71 ?_
                refine go_iload C 4 rfl dX5_frosts_72 ?_
                refine go_iconst C (1 : Int32) dX5_frosts_74 rfl ?_
                refine go_callVI C (st := [.int x16]) [.int x17, .int ((1 : Int32))] (m_X5_stops E _ hok k1 x17 ((1 : Int32)) σ23) (fun _ h => fh_ob_ok h) rfl rfl ⟨q_888, q_890, qs_28, q_6, q_891⟩ pd_X5_stops rfl ⟨⟨Nat.le_of_ble_eq_true rfl, Nat.le_of_ble_eq_true rfl⟩, rfl, rfl⟩ (Nat.le_of_ble_eq_true rfl) dX5_frosts_75 (fun r31 σ30 => ?_)
                refine go_if_eq (tgt := 85) C dX5_frosts_78 rfl (fun _ => ?_) (fun _ => ?_)
                · refine go_lv [0, 1, 3, 4] (lv' := [(0, .ref (fh_ad E k1)), (1, .int a2), (3, .int x9), (4, .int x17)]) rfl ?_
                  exact hj29 σ30
                · refine go_iconst C (1 : Int32) dX5_frosts_81 rfl ?_
                  refine go_goto C 86 dX5_frosts_82 rfl ?_
                  refine go_lv [0, 1, 3, 4] (lv' := [(0, .ref (fh_ad E k1)), (1, .int a2), (3, .int x9), (4, .int x17)]) rfl ?_
                  exact hj27 ((1 : Int32)) σ30
    · refine go_aload_n C 0 rfl rfl dX5_frosts_30 ?_
      refine go_ldc C q_897 dX5_frosts_31 ?_
      refine go_callVI C (st := []) [.int ((-1000005 : Int32))] (m_X5_finding E _ hok k1 ((-1000005 : Int32)) σ4) (fun _ h => fh_ob_ok h) rfl rfl ⟨q_821, q_823, qs_19, q_6, q_824⟩ pd_X5_finding rfl ⟨⟨Nat.le_of_ble_eq_true rfl, Nat.le_of_ble_eq_true rfl⟩, rfl, rfl⟩ (Nat.le_of_ble_eq_true rfl) dX5_frosts_33 (fun r33 σ32 => ?_)
      exact go_iret C Hr rfl dX5_frosts_36
  · refine go_aload_n C 0 rfl rfl dX5_frosts_10 ?_
    refine go_ldc C q_820 dX5_frosts_11 ?_
    refine go_callVI C (st := []) [.int ((-1000001 : Int32))] (m_X5_finding E _ hok k1 ((-1000001 : Int32)) σ4) (fun _ h => fh_ob_ok h) rfl rfl ⟨q_821, q_823, qs_19, q_6, q_824⟩ pd_X5_finding rfl ⟨⟨Nat.le_of_ble_eq_true rfl, Nat.le_of_ble_eq_true rfl⟩, rfl, rfl⟩ (Nat.le_of_ble_eq_true rfl) dX5_frosts_13 (fun r35 σ34 => ?_)
    exact go_iret C Hr rfl dX5_frosts_16
theorem m_X5_frosts (E : fh_E) (l : Launch) (hok : fh_ok E) (k1 : Nat) (a2 : Int32) (σ3 : fh_S) : fh_Met E l yX5_frosts cX5_frosts 5 ((some FieldType.int)) rm_X5_frosts fh_vI [.ref (fh_ad E k1), .int a2] σ3 (f_X5_frosts k1 a2 σ3) := fh_met hok (by decide +kernel) (Nat.le_of_ble_eq_true rfl) (fun M _ C Hr => g_X5_frosts C Hr k1 a2 σ3)
def f_X5_odds_J19 (k1 : Nat) : fh_S → Option (Int64 × fh_S) := fun σ7 => fh_cb (f_X5_finding k1 ((-1000001 : Int32)) σ7) fun r9 σ8 => some (r9.toInt64, σ8)
def f_X5_odds_B32 (a2 : Int32) (a3 : Int32) (r16 : Int64 → Int32 → fh_S → Option (Int64 × fh_S)) : Int64 → Int32 → fh_S → Option (Int64 × fh_S) := fun x13 x14 σ15 => if a2 ≤ x14 then some (x13, σ15) else r16 (x13 * ((((15 : Int32)) + a3).toInt64)) (x14 + 1) σ15
def f_X5_odds (k1 : Nat) (a2 : Int32) (a3 : Int32) (σ4 : fh_S) : Option (Int64 × fh_S) := fh_ob 5 k1 (fh_cb (f_X5_within a2 ((0 : Int32)) ((14 : Int32)) σ4) fun r6 σ5 => fh_jn (f_X5_odds_J19 k1) (fun j10 => if r6 = 0 then j10 σ5 else fh_cb (f_X5_within a3 ((0 : Int32)) ((1 : Int32)) σ5) fun r12 σ11 => if r12 = 0 then j10 σ11 else fh_fx (ρ := Int64 → Int32 → fh_S → Option (Int64 × fh_S)) (fun _ _ _ => none) (f_X5_odds_B32 a2 a3) fh_fu ((1 : Int64)) ((0 : Int32)) σ11))
abbrev rm_X5_odds : Room := { frames := 1, cells := 0, slots := 0, locals := 22 }
theorem pd_X5_odds : yX5_odds.cls ≠ "java/lang/invoke/MethodHandle" ∧ yX5_odds.cls ≠ "java/lang/invoke/VarHandle" ∧ (parseMethodDescriptor yX5_odds.desc).map (fun d => d.parameters.length) = some 2 := by decide +kernel
theorem dX5_odds_0 : decode cX5_odds 0 = .ok (.iload_n 1, 1) := by decide +kernel
theorem dX5_odds_1 : decode cX5_odds 1 = .ok (.iconst 0, 1) := by decide +kernel
theorem dX5_odds_2 : decode cX5_odds 2 = .ok (.bipush 14, 2) := by decide +kernel
theorem dX5_odds_4 : decode cX5_odds 4 = .ok (.invokestatic 73, 3) := by decide +kernel
theorem dX5_odds_7 : decode cX5_odds 7 = .ok (.ifCond .eq 12, 3) := by decide +kernel
theorem dX5_odds_10 : decode cX5_odds 10 = .ok (.iload_n 2, 1) := by decide +kernel
theorem dX5_odds_11 : decode cX5_odds 11 = .ok (.iconst 0, 1) := by decide +kernel
theorem dX5_odds_12 : decode cX5_odds 12 = .ok (.iconst 1, 1) := by decide +kernel
theorem dX5_odds_13 : decode cX5_odds 13 = .ok (.invokestatic 73, 3) := by decide +kernel
theorem dX5_odds_16 : decode cX5_odds 16 = .ok (.ifCond .ne 11, 3) := by decide +kernel
theorem dX5_odds_19 : decode cX5_odds 19 = .ok (.aload_n 0, 1) := by decide +kernel
theorem dX5_odds_20 : decode cX5_odds 20 = .ok (.ldc 63, 2) := by decide +kernel
theorem dX5_odds_22 : decode cX5_odds 22 = .ok (.invokevirtual 69, 3) := by decide +kernel
theorem dX5_odds_25 : decode cX5_odds 25 = .ok (.i2l, 1) := by decide +kernel
theorem dX5_odds_26 : decode cX5_odds 26 = .ok (.lreturn, 1) := by decide +kernel
theorem dX5_odds_27 : decode cX5_odds 27 = .ok (.lconst 1, 1) := by decide +kernel
theorem dX5_odds_28 : decode cX5_odds 28 = .ok (.lstore_n 3, 1) := by decide +kernel
theorem dX5_odds_29 : decode cX5_odds 29 = .ok (.iconst 0, 1) := by decide +kernel
theorem dX5_odds_30 : decode cX5_odds 30 = .ok (.istore 5, 2) := by decide +kernel
theorem dX5_odds_32 : decode cX5_odds 32 = .ok (.iload 5, 2) := by decide +kernel
theorem dX5_odds_34 : decode cX5_odds 34 = .ok (.iload_n 1, 1) := by decide +kernel
theorem dX5_odds_35 : decode cX5_odds 35 = .ok (.if_icmp .ge 17, 3) := by decide +kernel
theorem dX5_odds_38 : decode cX5_odds 38 = .ok (.lload_n 3, 1) := by decide +kernel
theorem dX5_odds_39 : decode cX5_odds 39 = .ok (.bipush 15, 2) := by decide +kernel
theorem dX5_odds_41 : decode cX5_odds 41 = .ok (.iload_n 2, 1) := by decide +kernel
theorem dX5_odds_42 : decode cX5_odds 42 = .ok (.iadd, 1) := by decide +kernel
theorem dX5_odds_43 : decode cX5_odds 43 = .ok (.i2l, 1) := by decide +kernel
theorem dX5_odds_44 : decode cX5_odds 44 = .ok (.lmul, 1) := by decide +kernel
theorem dX5_odds_45 : decode cX5_odds 45 = .ok (.lstore_n 3, 1) := by decide +kernel
theorem dX5_odds_46 : decode cX5_odds 46 = .ok (.iinc 5 1, 3) := by decide +kernel
theorem dX5_odds_49 : decode cX5_odds 49 = .ok (.goto (-17), 3) := by decide +kernel
theorem dX5_odds_52 : decode cX5_odds 52 = .ok (.lload_n 3, 1) := by decide +kernel
theorem dX5_odds_53 : decode cX5_odds 53 = .ok (.lreturn, 1) := by decide +kernel
set_option maxHeartbeats 4000000 in
set_option maxRecDepth 100000 in
theorem g_X5_odds {E : fh_E} {M : fh_M} (C : fh_Cx E M cX5_odds 6 RX5 ((some FieldType.long)) rm_X5_odds) (Hr : fh_Rt E M) (k1 : Nat) (a2 : Int32) (a3 : Int32) (σ4 : fh_S) : fh_Go E M 6 fh_vL 0 [(0, .ref (fh_ad E k1)), (1, .int a2), (2, .int a3)] [] σ4 (f_X5_odds k1 a2 a3 σ4) := by
  have hok := fh_cok C
  refine go_ob ?_
  refine go_iload_n C 1 rfl rfl dX5_odds_0 ?_
  refine go_iconst C (0 : Int32) dX5_odds_1 rfl ?_
  refine go_bipush C (14 : Int32) dX5_odds_2 rfl ?_
  refine go_callSI C (st := []) [.int a2, .int ((0 : Int32)), .int ((14 : Int32))] (m_X5_within E _ hok a2 ((0 : Int32)) ((14 : Int32)) σ4) rfl ⟨q_817, q_818, q_6, q_819⟩ pd_X5_within rfl ⟨⟨Nat.le_of_ble_eq_true rfl, Nat.le_of_ble_eq_true rfl⟩, rfl, rfl⟩ (Nat.le_of_ble_eq_true rfl) dX5_odds_4 (fun r6 σ5 => ?_)
  refine go_jn (fun (j10 : fh_S → Option (Int64 × fh_S)) => ∀ (σ7 : fh_S), fh_Go E M 6 fh_vL 19 [(0, .ref (fh_ad E k1))] [] σ7 (j10 σ7)) ?_ (fun j10 hj10 => ?_)
  · intro σ7
    refine go_aload_n C 0 rfl rfl dX5_odds_19 ?_
    refine go_ldc C q_820 dX5_odds_20 ?_
    refine go_callVI C (st := []) [.int ((-1000001 : Int32))] (m_X5_finding E _ hok k1 ((-1000001 : Int32)) σ7) (fun _ h => fh_ob_ok h) rfl rfl ⟨q_821, q_823, qs_19, q_6, q_824⟩ pd_X5_finding rfl ⟨⟨Nat.le_of_ble_eq_true rfl, Nat.le_of_ble_eq_true rfl⟩, rfl, rfl⟩ (Nat.le_of_ble_eq_true rfl) dX5_odds_22 (fun r9 σ8 => ?_)
    refine go_i2l C dX5_odds_25 ?_
    exact go_lret C Hr rfl dX5_odds_26
  refine go_if_eq (tgt := 19) C dX5_odds_7 rfl (fun _ => ?_) (fun _ => ?_)
  · refine go_lv [0] (lv' := [(0, .ref (fh_ad E k1))]) rfl ?_
    exact hj10 σ5
  · refine go_iload_n C 2 rfl rfl dX5_odds_10 ?_
    refine go_iconst C (0 : Int32) dX5_odds_11 rfl ?_
    refine go_iconst C (1 : Int32) dX5_odds_12 rfl ?_
    refine go_callSI C (st := []) [.int a3, .int ((0 : Int32)), .int ((1 : Int32))] (m_X5_within E _ hok a3 ((0 : Int32)) ((1 : Int32)) σ5) rfl ⟨q_817, q_818, q_6, q_819⟩ pd_X5_within rfl ⟨⟨Nat.le_of_ble_eq_true rfl, Nat.le_of_ble_eq_true rfl⟩, rfl, rfl⟩ (Nat.le_of_ble_eq_true rfl) dX5_odds_13 (fun r12 σ11 => ?_)
    refine go_if_ne (tgt := 27) C dX5_odds_16 rfl (fun _ => ?_) (fun _ => ?_)
    · refine go_lconst C (1 : Int64) dX5_odds_27 rfl ?_
      refine go_lstore_n C [(3, .long ((1 : Int64))), (0, .ref (fh_ad E k1)), (1, .int a2), (2, .int a3)] rfl rfl (by decide) dX5_odds_28 ?_
      refine go_iconst C (0 : Int32) dX5_odds_29 rfl ?_
      refine go_istore C [(5, .int ((0 : Int32))), (3, .long ((1 : Int64))), (0, .ref (fh_ad E k1)), (1, .int a2), (2, .int a3)] rfl (by decide) dX5_odds_30 ?_
      refine go_lv [3, 4, 1, 0] (lv' := [(1, .int a2), (2, .int a3), (3, .long ((1 : Int64))), (5, .int ((0 : Int32)))]) rfl ?_
      refine go_fx (fun (r16 : Int64 → Int32 → fh_S → Option (Int64 × fh_S)) => ∀ (x13 : Int64) (x14 : Int32) (σ15 : fh_S), fh_Go E M 6 fh_vL 32 [(1, .int a2), (2, .int a3), (3, .long x13), (5, .int x14)] [] σ15 (r16 x13 x14 σ15)) ?_ ?_ fh_fu ((1 : Int64)) ((0 : Int32)) σ11
      · intro x13 x14 σ15
        exact go_none
      · intro r16 hr16 x13 x14 σ15
        refine go_iload C 3 rfl dX5_odds_32 ?_
        refine go_iload_n C 0 rfl rfl dX5_odds_34 ?_
        refine go_icmp_ge (tgt := 52) C dX5_odds_35 rfl (fun _ => ?_) (fun _ => ?_)
        · refine go_lload_n C 2 rfl rfl dX5_odds_52 ?_
          exact go_lret C Hr rfl dX5_odds_53
        · refine go_lload_n C 2 rfl rfl dX5_odds_38 ?_
          refine go_bipush C (15 : Int32) dX5_odds_39 rfl ?_
          refine go_iload_n C 1 rfl rfl dX5_odds_41 ?_
          refine go_iadd C dX5_odds_42 ?_
          refine go_i2l C dX5_odds_43 ?_
          refine go_lmul C dX5_odds_44 ?_
          refine go_lstore_n C [(3, .long (x13 * ((((15 : Int32)) + a3).toInt64))), (1, .int a2), (2, .int a3), (5, .int x14)] rfl rfl (by decide) dX5_odds_45 ?_
          refine go_iinc C (x14 + 1) 3 [(5, .int (x14 + 1)), (3, .long (x13 * ((((15 : Int32)) + a3).toInt64))), (1, .int a2), (2, .int a3)] rfl rfl rfl (by decide) dX5_odds_46 ?_
          refine go_goto C 32 dX5_odds_49 rfl ?_
          refine go_lv [2, 3, 1, 0] (lv' := [(1, .int a2), (2, .int a3), (3, .long (x13 * ((((15 : Int32)) + a3).toInt64))), (5, .int (x14 + 1))]) rfl ?_
          exact hr16 (x13 * ((((15 : Int32)) + a3).toInt64)) (x14 + 1) σ15
    · refine go_lv [0] (lv' := [(0, .ref (fh_ad E k1))]) rfl ?_
      exact hj10 σ11
theorem m_X5_odds (E : fh_E) (l : Launch) (hok : fh_ok E) (k1 : Nat) (a2 : Int32) (a3 : Int32) (σ4 : fh_S) : fh_Met E l yX5_odds cX5_odds 6 ((some FieldType.long)) rm_X5_odds fh_vL [.ref (fh_ad E k1), .int a2, .int a3] σ4 (f_X5_odds k1 a2 a3 σ4) := fh_met hok (by decide +kernel) (Nat.le_of_ble_eq_true rfl) (fun M _ C Hr => g_X5_odds C Hr k1 a2 a3 σ4)
def f_X5_seed (k1 : Nat) (a2 : Int32) (σ3 : fh_S) : Option (Int32 × fh_S) := fh_ob 5 k1 (fh_cb (f_X5_become k1 ((2 : Int32)) a2 σ3) fun r5 σ4 => some (r5, σ4))
abbrev rm_X5_seed : Room := { frames := 1, cells := 0, slots := 0, locals := 23 }
theorem pd_X5_seed : yX5_seed.cls ≠ "java/lang/invoke/MethodHandle" ∧ yX5_seed.cls ≠ "java/lang/invoke/VarHandle" ∧ (parseMethodDescriptor yX5_seed.desc).map (fun d => d.parameters.length) = some 1 := by decide +kernel
theorem dX5_seed_0 : decode cX5_seed 0 = .ok (.aload_n 0, 1) := by decide +kernel
theorem dX5_seed_1 : decode cX5_seed 1 = .ok (.iconst 2, 1) := by decide +kernel
theorem dX5_seed_2 : decode cX5_seed 2 = .ok (.iload_n 1, 1) := by decide +kernel
theorem dX5_seed_3 : decode cX5_seed 3 = .ok (.invokevirtual 125, 3) := by decide +kernel
theorem dX5_seed_6 : decode cX5_seed 6 = .ok (.ireturn, 1) := by decide +kernel
set_option maxHeartbeats 4000000 in
set_option maxRecDepth 100000 in
theorem g_X5_seed {E : fh_E} {M : fh_M} (C : fh_Cx E M cX5_seed 2 RX5 ((some FieldType.int)) rm_X5_seed) (Hr : fh_Rt E M) (k1 : Nat) (a2 : Int32) (σ3 : fh_S) : fh_Go E M 2 fh_vI 0 [(0, .ref (fh_ad E k1)), (1, .int a2)] [] σ3 (f_X5_seed k1 a2 σ3) := by
  have hok := fh_cok C
  refine go_ob ?_
  refine go_aload_n C 0 rfl rfl dX5_seed_0 ?_
  refine go_iconst C (2 : Int32) dX5_seed_1 rfl ?_
  refine go_iload_n C 1 rfl rfl dX5_seed_2 ?_
  refine go_callVI C (st := []) [.int ((2 : Int32)), .int a2] (m_X5_become E _ hok k1 ((2 : Int32)) a2 σ3) (fun _ h => fh_ob_ok h) rfl rfl ⟨q_873, q_875, qs_27, q_6, q_876⟩ pd_X5_become rfl ⟨⟨Nat.le_of_ble_eq_true rfl, Nat.le_of_ble_eq_true rfl⟩, rfl, rfl⟩ (Nat.le_of_ble_eq_true rfl) dX5_seed_3 (fun r5 σ4 => ?_)
  exact go_iret C Hr rfl dX5_seed_6
theorem m_X5_seed (E : fh_E) (l : Launch) (hok : fh_ok E) (k1 : Nat) (a2 : Int32) (σ3 : fh_S) : fh_Met E l yX5_seed cX5_seed 2 ((some FieldType.int)) rm_X5_seed fh_vI [.ref (fh_ad E k1), .int a2] σ3 (f_X5_seed k1 a2 σ3) := fh_met hok (by decide +kernel) (Nat.le_of_ble_eq_true rfl) (fun M _ C Hr => g_X5_seed C Hr k1 a2 σ3)
def f_X5_feed_B38 (k1 : Nat) (a2 : Int32) (r10 : Int32 → fh_S → Option (Int32 × fh_S)) : Int32 → fh_S → Option (Int32 × fh_S) := fun x8 σ9 => if x8 < 0 then (fh_gi σ9 5 k1 7).bind fun v11 => some (v11, σ9) else (fh_gr 5 k1 6).bind fun k12 => (fh_gi σ9 5 k1 7).bind fun v13 => (fh_st σ9 k12 v13 ((a2 >>> ((((8 : Int32)) * x8) &&& 31)) &&& ((255 : Int32)))).bind fun σ14 => (fh_gi σ14 5 k1 7).bind fun v15 => (fh_pf σ14 5 k1 7 (v15 + ((1 : Int32)))).bind fun σ16 => r10 (x8 + (-1)) σ16
def f_X5_feed (k1 : Nat) (a2 : Int32) (a3 : Int32) (σ4 : fh_S) : Option (Int32 × fh_S) := fh_ob 5 k1 (fh_cb (f_X5_within a3 ((1 : Int32)) ((4 : Int32)) σ4) fun r6 σ5 => if r6 = 0 then fh_cb (f_X5_finding k1 ((-1000001 : Int32)) σ5) fun r20 σ19 => some (r20, σ19) else (fh_gi σ5 5 k1 7).bind fun v7 => if (v7 + a3) ≤ ((120 : Int32)) then fh_fx (ρ := Int32 → fh_S → Option (Int32 × fh_S)) (fun _ _ => none) (f_X5_feed_B38 k1 a2) fh_fu (a3 - ((1 : Int32))) σ5 else fh_cb (f_X5_finding k1 ((-1000002 : Int32)) σ5) fun r18 σ17 => some (r18, σ17))
abbrev rm_X5_feed : Room := { frames := 1, cells := 0, slots := 0, locals := 22 }
theorem pd_X5_feed : yX5_feed.cls ≠ "java/lang/invoke/MethodHandle" ∧ yX5_feed.cls ≠ "java/lang/invoke/VarHandle" ∧ (parseMethodDescriptor yX5_feed.desc).map (fun d => d.parameters.length) = some 2 := by decide +kernel
theorem dX5_feed_0 : decode cX5_feed 0 = .ok (.iload_n 2, 1) := by decide +kernel
theorem dX5_feed_1 : decode cX5_feed 1 = .ok (.iconst 1, 1) := by decide +kernel
theorem dX5_feed_2 : decode cX5_feed 2 = .ok (.iconst 4, 1) := by decide +kernel
theorem dX5_feed_3 : decode cX5_feed 3 = .ok (.invokestatic 73, 3) := by decide +kernel
theorem dX5_feed_6 : decode cX5_feed 6 = .ok (.ifCond .ne 10, 3) := by decide +kernel
theorem dX5_feed_9 : decode cX5_feed 9 = .ok (.aload_n 0, 1) := by decide +kernel
theorem dX5_feed_10 : decode cX5_feed 10 = .ok (.ldc 63, 2) := by decide +kernel
theorem dX5_feed_12 : decode cX5_feed 12 = .ok (.invokevirtual 69, 3) := by decide +kernel
theorem dX5_feed_15 : decode cX5_feed 15 = .ok (.ireturn, 1) := by decide +kernel
theorem dX5_feed_16 : decode cX5_feed 16 = .ok (.aload_n 0, 1) := by decide +kernel
theorem dX5_feed_17 : decode cX5_feed 17 = .ok (.getfield 227, 3) := by decide +kernel
theorem dX5_feed_20 : decode cX5_feed 20 = .ok (.iload_n 2, 1) := by decide +kernel
theorem dX5_feed_21 : decode cX5_feed 21 = .ok (.iadd, 1) := by decide +kernel
theorem dX5_feed_22 : decode cX5_feed 22 = .ok (.bipush 120, 2) := by decide +kernel
theorem dX5_feed_24 : decode cX5_feed 24 = .ok (.if_icmp .le 10, 3) := by decide +kernel
theorem dX5_feed_27 : decode cX5_feed 27 = .ok (.aload_n 0, 1) := by decide +kernel
theorem dX5_feed_28 : decode cX5_feed 28 = .ok (.ldc 88, 2) := by decide +kernel
theorem dX5_feed_30 : decode cX5_feed 30 = .ok (.invokevirtual 69, 3) := by decide +kernel
theorem dX5_feed_33 : decode cX5_feed 33 = .ok (.ireturn, 1) := by decide +kernel
theorem dX5_feed_34 : decode cX5_feed 34 = .ok (.iload_n 2, 1) := by decide +kernel
theorem dX5_feed_35 : decode cX5_feed 35 = .ok (.iconst 1, 1) := by decide +kernel
theorem dX5_feed_36 : decode cX5_feed 36 = .ok (.isub, 1) := by decide +kernel
theorem dX5_feed_37 : decode cX5_feed 37 = .ok (.istore_n 3, 1) := by decide +kernel
theorem dX5_feed_38 : decode cX5_feed 38 = .ok (.iload_n 3, 1) := by decide +kernel
theorem dX5_feed_39 : decode cX5_feed 39 = .ok (.ifCond .lt 38, 3) := by decide +kernel
theorem dX5_feed_42 : decode cX5_feed 42 = .ok (.aload_n 0, 1) := by decide +kernel
theorem dX5_feed_43 : decode cX5_feed 43 = .ok (.getfield 25, 3) := by decide +kernel
theorem dX5_feed_46 : decode cX5_feed 46 = .ok (.aload_n 0, 1) := by decide +kernel
theorem dX5_feed_47 : decode cX5_feed 47 = .ok (.getfield 227, 3) := by decide +kernel
theorem dX5_feed_50 : decode cX5_feed 50 = .ok (.iload_n 1, 1) := by decide +kernel
theorem dX5_feed_51 : decode cX5_feed 51 = .ok (.bipush 8, 2) := by decide +kernel
theorem dX5_feed_53 : decode cX5_feed 53 = .ok (.iload_n 3, 1) := by decide +kernel
theorem dX5_feed_54 : decode cX5_feed 54 = .ok (.imul, 1) := by decide +kernel
theorem dX5_feed_55 : decode cX5_feed 55 = .ok (.ishr, 1) := by decide +kernel
theorem dX5_feed_56 : decode cX5_feed 56 = .ok (.sipush 255, 3) := by decide +kernel
theorem dX5_feed_59 : decode cX5_feed 59 = .ok (.iand, 1) := by decide +kernel
theorem dX5_feed_60 : decode cX5_feed 60 = .ok (.iastore, 1) := by decide +kernel
theorem dX5_feed_61 : decode cX5_feed 61 = .ok (.aload_n 0, 1) := by decide +kernel
theorem dX5_feed_62 : decode cX5_feed 62 = .ok (.dup, 1) := by decide +kernel
theorem dX5_feed_63 : decode cX5_feed 63 = .ok (.getfield 227, 3) := by decide +kernel
theorem dX5_feed_66 : decode cX5_feed 66 = .ok (.iconst 1, 1) := by decide +kernel
theorem dX5_feed_67 : decode cX5_feed 67 = .ok (.iadd, 1) := by decide +kernel
theorem dX5_feed_68 : decode cX5_feed 68 = .ok (.putfield 227, 3) := by decide +kernel
theorem dX5_feed_71 : decode cX5_feed 71 = .ok (.iinc 3 (-1), 3) := by decide +kernel
theorem dX5_feed_74 : decode cX5_feed 74 = .ok (.goto (-36), 3) := by decide +kernel
theorem dX5_feed_77 : decode cX5_feed 77 = .ok (.aload_n 0, 1) := by decide +kernel
theorem dX5_feed_78 : decode cX5_feed 78 = .ok (.getfield 227, 3) := by decide +kernel
theorem dX5_feed_81 : decode cX5_feed 81 = .ok (.ireturn, 1) := by decide +kernel
set_option maxHeartbeats 4000000 in
set_option maxRecDepth 100000 in
theorem g_X5_feed {E : fh_E} {M : fh_M} (C : fh_Cx E M cX5_feed 4 RX5 ((some FieldType.int)) rm_X5_feed) (Hr : fh_Rt E M) (k1 : Nat) (a2 : Int32) (a3 : Int32) (σ4 : fh_S) : fh_Go E M 4 fh_vI 0 [(0, .ref (fh_ad E k1)), (1, .int a2), (2, .int a3)] [] σ4 (f_X5_feed k1 a2 a3 σ4) := by
  have hok := fh_cok C
  refine go_ob ?_
  refine go_iload_n C 2 rfl rfl dX5_feed_0 ?_
  refine go_iconst C (1 : Int32) dX5_feed_1 rfl ?_
  refine go_iconst C (4 : Int32) dX5_feed_2 rfl ?_
  refine go_callSI C (st := []) [.int a3, .int ((1 : Int32)), .int ((4 : Int32))] (m_X5_within E _ hok a3 ((1 : Int32)) ((4 : Int32)) σ4) rfl ⟨q_817, q_818, q_6, q_819⟩ pd_X5_within rfl ⟨⟨Nat.le_of_ble_eq_true rfl, Nat.le_of_ble_eq_true rfl⟩, rfl, rfl⟩ (Nat.le_of_ble_eq_true rfl) dX5_feed_3 (fun r6 σ5 => ?_)
  refine go_if_ne (tgt := 16) C dX5_feed_6 rfl (fun _ => ?_) (fun _ => ?_)
  · refine go_aload_n C 0 rfl rfl dX5_feed_16 ?_
    refine go_gi (ci := 5) (j := 7) C fh_in5 rfl (by decide) rfl q_753 dX5_feed_17 (fun v7 => ?_)
    refine go_iload_n C 2 rfl rfl dX5_feed_20 ?_
    refine go_iadd C dX5_feed_21 ?_
    refine go_bipush C (120 : Int32) dX5_feed_22 rfl ?_
    refine go_icmp_le (tgt := 34) C dX5_feed_24 rfl (fun _ => ?_) (fun _ => ?_)
    · refine go_iload_n C 2 rfl rfl dX5_feed_34 ?_
      refine go_iconst C (1 : Int32) dX5_feed_35 rfl ?_
      refine go_isub C dX5_feed_36 ?_
      refine go_istore_n C [(3, .int (a3 - ((1 : Int32)))), (0, .ref (fh_ad E k1)), (1, .int a2), (2, .int a3)] rfl rfl (by decide) dX5_feed_37 ?_
      refine go_lv [1, 2, 0] (lv' := [(0, .ref (fh_ad E k1)), (1, .int a2), (3, .int (a3 - ((1 : Int32))))]) rfl ?_
      refine go_fx (fun (r10 : Int32 → fh_S → Option (Int32 × fh_S)) => ∀ (x8 : Int32) (σ9 : fh_S), fh_Go E M 4 fh_vI 38 [(0, .ref (fh_ad E k1)), (1, .int a2), (3, .int x8)] [] σ9 (r10 x8 σ9)) ?_ ?_ fh_fu (a3 - ((1 : Int32))) σ5
      · intro x8 σ9
        exact go_none
      · intro r10 hr10 x8 σ9
        refine go_iload_n C 2 rfl rfl dX5_feed_38 ?_
        refine go_if_lt (tgt := 77) C dX5_feed_39 rfl (fun _ => ?_) (fun _ => ?_)
        · refine go_aload_n C 0 rfl rfl dX5_feed_77 ?_
          refine go_gi (ci := 5) (j := 7) C fh_in5 rfl (by decide) rfl q_753 dX5_feed_78 (fun v11 => ?_)
          exact go_iret C Hr rfl dX5_feed_81
        · refine go_aload_n C 0 rfl rfl dX5_feed_42 ?_
          refine go_gr (ci := 5) (j := 6) C fh_in5 rfl (by decide) rfl q_752 dX5_feed_43 (fun k12 => ?_)
          refine go_aload_n C 0 rfl rfl dX5_feed_46 ?_
          refine go_gi (ci := 5) (j := 7) C fh_in5 rfl (by decide) rfl q_753 dX5_feed_47 (fun v13 => ?_)
          refine go_iload_n C 1 rfl rfl dX5_feed_50 ?_
          refine go_bipush C (8 : Int32) dX5_feed_51 rfl ?_
          refine go_iload_n C 2 rfl rfl dX5_feed_53 ?_
          refine go_imul C dX5_feed_54 ?_
          refine go_ishr C dX5_feed_55 ?_
          refine go_sipush C (255 : Int32) dX5_feed_56 rfl ?_
          refine go_iand C dX5_feed_59 ?_
          refine go_iast C dX5_feed_60 (fun σ14 => ?_)
          refine go_aload_n C 0 rfl rfl dX5_feed_61 ?_
          refine go_dup C rfl dX5_feed_62 ?_
          refine go_gi (ci := 5) (j := 7) C fh_in5 rfl (by decide) rfl q_753 dX5_feed_63 (fun v15 => ?_)
          refine go_iconst C (1 : Int32) dX5_feed_66 rfl ?_
          refine go_iadd C dX5_feed_67 ?_
          refine go_pf (ci := 5) (j := 7) C tyX5 tyX5_ok nmX5 fh_in5 rfl (by decide) rfl q_753 rfl rfl dX5_feed_68 (fun σ16 => ?_)
          refine go_iinc C (x8 + (-1)) 2 [(3, .int (x8 + (-1))), (0, .ref (fh_ad E k1)), (1, .int a2)] rfl (congrArg (fun z => x8 + z) (by decide : Int32.ofInt (-1) = (-1 : Int32))) rfl (by decide) dX5_feed_71 ?_
          refine go_goto C 38 dX5_feed_74 rfl ?_
          refine go_lv [1, 2, 0] (lv' := [(0, .ref (fh_ad E k1)), (1, .int a2), (3, .int (x8 + (-1)))]) rfl ?_
          exact hr10 (x8 + (-1)) σ16
    · refine go_aload_n C 0 rfl rfl dX5_feed_27 ?_
      refine go_ldc C q_825 dX5_feed_28 ?_
      refine go_callVI C (st := []) [.int ((-1000002 : Int32))] (m_X5_finding E _ hok k1 ((-1000002 : Int32)) σ5) (fun _ h => fh_ob_ok h) rfl rfl ⟨q_821, q_823, qs_19, q_6, q_824⟩ pd_X5_finding rfl ⟨⟨Nat.le_of_ble_eq_true rfl, Nat.le_of_ble_eq_true rfl⟩, rfl, rfl⟩ (Nat.le_of_ble_eq_true rfl) dX5_feed_30 (fun r18 σ17 => ?_)
      exact go_iret C Hr rfl dX5_feed_33
  · refine go_aload_n C 0 rfl rfl dX5_feed_9 ?_
    refine go_ldc C q_820 dX5_feed_10 ?_
    refine go_callVI C (st := []) [.int ((-1000001 : Int32))] (m_X5_finding E _ hok k1 ((-1000001 : Int32)) σ5) (fun _ h => fh_ob_ok h) rfl rfl ⟨q_821, q_823, qs_19, q_6, q_824⟩ pd_X5_finding rfl ⟨⟨Nat.le_of_ble_eq_true rfl, Nat.le_of_ble_eq_true rfl⟩, rfl, rfl⟩ (Nat.le_of_ble_eq_true rfl) dX5_feed_12 (fun r20 σ19 => ?_)
    exact go_iret C Hr rfl dX5_feed_15
theorem m_X5_feed (E : fh_E) (l : Launch) (hok : fh_ok E) (k1 : Nat) (a2 : Int32) (a3 : Int32) (σ4 : fh_S) : fh_Met E l yX5_feed cX5_feed 4 ((some FieldType.int)) rm_X5_feed fh_vI [.ref (fh_ad E k1), .int a2, .int a3] σ4 (f_X5_feed k1 a2 a3 σ4) := fh_met hok (by decide +kernel) (Nat.le_of_ble_eq_true rfl) (fun M _ C Hr => g_X5_feed C Hr k1 a2 a3 σ4)
def f_X5_wipe (k1 : Nat) (σ2 : fh_S) : Option (Int32 × fh_S) := fh_ob 5 k1 ((fh_gi σ2 5 k1 7).bind fun v3 => (fh_pf σ2 5 k1 7 ((0 : Int32))).bind fun σ4 => some (v3, σ4))
abbrev rm_X5_wipe : Room := { frames := 0, cells := 0, slots := 0, locals := 0 }
theorem pd_X5_wipe : yX5_wipe.cls ≠ "java/lang/invoke/MethodHandle" ∧ yX5_wipe.cls ≠ "java/lang/invoke/VarHandle" ∧ (parseMethodDescriptor yX5_wipe.desc).map (fun d => d.parameters.length) = some 0 := by decide +kernel
theorem dX5_wipe_0 : decode cX5_wipe 0 = .ok (.aload_n 0, 1) := by decide +kernel
theorem dX5_wipe_1 : decode cX5_wipe 1 = .ok (.getfield 227, 3) := by decide +kernel
theorem dX5_wipe_4 : decode cX5_wipe 4 = .ok (.istore_n 1, 1) := by decide +kernel
theorem dX5_wipe_5 : decode cX5_wipe 5 = .ok (.aload_n 0, 1) := by decide +kernel
theorem dX5_wipe_6 : decode cX5_wipe 6 = .ok (.iconst 0, 1) := by decide +kernel
theorem dX5_wipe_7 : decode cX5_wipe 7 = .ok (.putfield 227, 3) := by decide +kernel
theorem dX5_wipe_10 : decode cX5_wipe 10 = .ok (.iload_n 1, 1) := by decide +kernel
theorem dX5_wipe_11 : decode cX5_wipe 11 = .ok (.ireturn, 1) := by decide +kernel
set_option maxHeartbeats 4000000 in
set_option maxRecDepth 100000 in
theorem g_X5_wipe {E : fh_E} {M : fh_M} (C : fh_Cx E M cX5_wipe 2 RX5 ((some FieldType.int)) rm_X5_wipe) (Hr : fh_Rt E M) (k1 : Nat) (σ2 : fh_S) : fh_Go E M 2 fh_vI 0 [(0, .ref (fh_ad E k1))] [] σ2 (f_X5_wipe k1 σ2) := by
  have hok := fh_cok C
  refine go_ob ?_
  refine go_aload_n C 0 rfl rfl dX5_wipe_0 ?_
  refine go_gi (ci := 5) (j := 7) C fh_in5 rfl (by decide) rfl q_753 dX5_wipe_1 (fun v3 => ?_)
  refine go_istore_n C [(1, .int v3), (0, .ref (fh_ad E k1))] rfl rfl (by decide) dX5_wipe_4 ?_
  refine go_aload_n C 1 rfl rfl dX5_wipe_5 ?_
  refine go_iconst C (0 : Int32) dX5_wipe_6 rfl ?_
  refine go_pf (ci := 5) (j := 7) C tyX5 tyX5_ok nmX5 fh_in5 rfl (by decide) rfl q_753 rfl rfl dX5_wipe_7 (fun σ4 => ?_)
  refine go_iload_n C 0 rfl rfl dX5_wipe_10 ?_
  exact go_iret C Hr rfl dX5_wipe_11
theorem m_X5_wipe (E : fh_E) (l : Launch) (hok : fh_ok E) (k1 : Nat) (σ2 : fh_S) : fh_Met E l yX5_wipe cX5_wipe 2 ((some FieldType.int)) rm_X5_wipe fh_vI [.ref (fh_ad E k1)] σ2 (f_X5_wipe k1 σ2) := fh_met hok (by decide +kernel) (Nat.le_of_ble_eq_true rfl) (fun M _ C Hr => g_X5_wipe C Hr k1 σ2)
def f_X5_byteAt (k1 : Nat) (a2 : Int32) (σ3 : fh_S) : Option (Int32 × fh_S) := fh_ob 5 k1 ((fh_gi σ3 5 k1 7).bind fun v4 => if v4 ≤ a2 then some ((-1 : Int32), σ3) else (fh_gr 5 k1 6).bind fun k5 => (fh_ld σ3 k5 a2).bind fun v6 => some (v6, σ3))
abbrev rm_X5_byteAt : Room := { frames := 0, cells := 0, slots := 0, locals := 0 }
theorem pd_X5_byteAt : yX5_byteAt.cls ≠ "java/lang/invoke/MethodHandle" ∧ yX5_byteAt.cls ≠ "java/lang/invoke/VarHandle" ∧ (parseMethodDescriptor yX5_byteAt.desc).map (fun d => d.parameters.length) = some 1 := by decide +kernel
theorem dX5_byteAt_0 : decode cX5_byteAt 0 = .ok (.iload_n 1, 1) := by decide +kernel
theorem dX5_byteAt_1 : decode cX5_byteAt 1 = .ok (.aload_n 0, 1) := by decide +kernel
theorem dX5_byteAt_2 : decode cX5_byteAt 2 = .ok (.getfield 227, 3) := by decide +kernel
theorem dX5_byteAt_5 : decode cX5_byteAt 5 = .ok (.if_icmp .ge 12, 3) := by decide +kernel
theorem dX5_byteAt_8 : decode cX5_byteAt 8 = .ok (.aload_n 0, 1) := by decide +kernel
theorem dX5_byteAt_9 : decode cX5_byteAt 9 = .ok (.getfield 25, 3) := by decide +kernel
theorem dX5_byteAt_12 : decode cX5_byteAt 12 = .ok (.iload_n 1, 1) := by decide +kernel
theorem dX5_byteAt_13 : decode cX5_byteAt 13 = .ok (.iaload, 1) := by decide +kernel
theorem dX5_byteAt_14 : decode cX5_byteAt 14 = .ok (.goto 4, 3) := by decide +kernel
theorem dX5_byteAt_17 : decode cX5_byteAt 17 = .ok (.iconst (-1), 1) := by decide +kernel
theorem dX5_byteAt_18 : decode cX5_byteAt 18 = .ok (.ireturn, 1) := by decide +kernel
set_option maxHeartbeats 4000000 in
set_option maxRecDepth 100000 in
theorem g_X5_byteAt {E : fh_E} {M : fh_M} (C : fh_Cx E M cX5_byteAt 2 RX5 ((some FieldType.int)) rm_X5_byteAt) (Hr : fh_Rt E M) (k1 : Nat) (a2 : Int32) (σ3 : fh_S) : fh_Go E M 2 fh_vI 0 [(0, .ref (fh_ad E k1)), (1, .int a2)] [] σ3 (f_X5_byteAt k1 a2 σ3) := by
  have hok := fh_cok C
  refine go_ob ?_
  refine go_iload_n C 1 rfl rfl dX5_byteAt_0 ?_
  refine go_aload_n C 0 rfl rfl dX5_byteAt_1 ?_
  refine go_gi (ci := 5) (j := 7) C fh_in5 rfl (by decide) rfl q_753 dX5_byteAt_2 (fun v4 => ?_)
  refine go_icmp_ge (tgt := 17) C dX5_byteAt_5 rfl (fun _ => ?_) (fun _ => ?_)
  · refine go_iconst C (-1 : Int32) dX5_byteAt_17 rfl ?_
    exact go_iret C Hr rfl dX5_byteAt_18
  · refine go_aload_n C 0 rfl rfl dX5_byteAt_8 ?_
    refine go_gr (ci := 5) (j := 6) C fh_in5 rfl (by decide) rfl q_752 dX5_byteAt_9 (fun k5 => ?_)
    refine go_iload_n C 1 rfl rfl dX5_byteAt_12 ?_
    refine go_iald C dX5_byteAt_13 (fun v6 => ?_)
    refine go_goto C 18 dX5_byteAt_14 rfl ?_
    exact go_iret C Hr rfl dX5_byteAt_18
theorem m_X5_byteAt (E : fh_E) (l : Launch) (hok : fh_ok E) (k1 : Nat) (a2 : Int32) (σ3 : fh_S) : fh_Met E l yX5_byteAt cX5_byteAt 2 ((some FieldType.int)) rm_X5_byteAt fh_vI [.ref (fh_ad E k1), .int a2] σ3 (f_X5_byteAt k1 a2 σ3) := fh_met hok (by decide +kernel) (Nat.le_of_ble_eq_true rfl) (fun M _ C Hr => g_X5_byteAt C Hr k1 a2 σ3)
def f_X5_next_B131 (k1 : Nat) (r25 : fh_S → Option (Unit × fh_S)) : fh_S → Option (Unit × fh_S) := fun σ24 => (fh_gi σ24 5 k1 9).bind fun v26 => fh_cb (f_X5_byteAt k1 v26 σ24) fun r28 σ27 => fh_cb (f_X5_within r28 ((48 : Int32)) ((57 : Int32)) σ27) fun r30 σ29 => if r30 = 0 then some ((), σ29) else (fh_gi σ29 5 k1 11).bind fun v31 => (fh_gi σ29 5 k1 9).bind fun v32 => fh_cb (f_X5_byteAt k1 v32 σ29) fun r34 σ33 => fh_cb (f_J9_min_7cf53 ((1000 : Int32)) (((((10 : Int32)) * v31) + r34) - ((48 : Int32))) σ33) fun r36 σ35 => (fh_pf σ35 5 k1 11 r36).bind fun σ37 => (fh_gi σ37 5 k1 9).bind fun v38 => (fh_pf σ37 5 k1 9 (v38 + ((1 : Int32)))).bind fun σ39 => r25 σ39
def f_X5_next_B84 (k1 : Nat) (r42 : fh_S → Option (Unit × fh_S)) : fh_S → Option (Unit × fh_S) := fun σ41 => (fh_gi σ41 5 k1 9).bind fun v43 => fh_cb (f_X5_byteAt k1 v43 σ41) fun r45 σ44 => fh_cb (f_X5_within r45 ((97 : Int32)) ((122 : Int32)) σ44) fun r47 σ46 => if r47 = 0 then some ((), σ46) else (fh_gi σ46 5 k1 9).bind fun v48 => (fh_pf σ46 5 k1 9 (v48 + ((1 : Int32)))).bind fun σ49 => r42 σ49
def f_X5_next_B8 (k1 : Nat) (r6 : fh_S → Option (Unit × fh_S)) : fh_S → Option (Unit × fh_S) := fun σ5 => (fh_gi σ5 5 k1 8).bind fun v7 => fh_cb (f_X5_byteAt k1 v7 σ5) fun r9 σ8 => if r9 = ((32 : Int32)) then (fh_gi σ8 5 k1 8).bind fun v51 => (fh_pf σ8 5 k1 8 (v51 + ((1 : Int32)))).bind fun σ52 => r6 σ52 else (fh_gi σ8 5 k1 8).bind fun v10 => fh_cb (f_X5_byteAt k1 v10 σ8) fun r12 σ11 => (fh_gi σ11 5 k1 8).bind fun v13 => (fh_pf σ11 5 k1 9 v13).bind fun σ14 => (fh_pf σ14 5 k1 11 ((0 : Int32))).bind fun σ15 => if 0 ≤ r12 then fh_cb (f_X5_within r12 ((97 : Int32)) ((122 : Int32)) σ15) fun r17 σ16 => if r17 = 0 then fh_cb (f_X5_within r12 ((48 : Int32)) ((57 : Int32)) σ16) fun r19 σ18 => if r19 = 0 then (fh_pf σ18 5 k1 10 ((3 : Int32))).bind fun σ20 => (fh_gi σ20 5 k1 9).bind fun v21 => (fh_pf σ20 5 k1 9 (v21 + ((1 : Int32)))).bind fun σ22 => some ((), σ22) else (fh_pf σ18 5 k1 10 ((2 : Int32))).bind fun σ23 => fh_fx (ρ := fh_S → Option (Unit × fh_S)) (fun _ => none) (f_X5_next_B131 k1) fh_fu σ23 else (fh_pf σ16 5 k1 10 ((1 : Int32))).bind fun σ40 => fh_fx (ρ := fh_S → Option (Unit × fh_S)) (fun _ => none) (f_X5_next_B84 k1) fh_fu σ40 else (fh_pf σ15 5 k1 10 ((0 : Int32))).bind fun σ50 => some ((), σ50)
def f_X5_next (k1 : Nat) (σ2 : fh_S) : Option (Unit × fh_S) := fh_ob 5 k1 ((fh_gi σ2 5 k1 9).bind fun v3 => (fh_pf σ2 5 k1 8 v3).bind fun σ4 => fh_fx (ρ := fh_S → Option (Unit × fh_S)) (fun _ => none) (f_X5_next_B8 k1) fh_fu σ4)
abbrev rm_X5_next : Room := { frames := 1, cells := 0, slots := 0, locals := 22 }
theorem pd_X5_next : yX5_next.cls ≠ "java/lang/invoke/MethodHandle" ∧ yX5_next.cls ≠ "java/lang/invoke/VarHandle" ∧ (parseMethodDescriptor yX5_next.desc).map (fun d => d.parameters.length) = some 0 := by decide +kernel
theorem dX5_next_0 : decode cX5_next 0 = .ok (.aload_n 0, 1) := by decide +kernel
theorem dX5_next_1 : decode cX5_next 1 = .ok (.aload_n 0, 1) := by decide +kernel
theorem dX5_next_2 : decode cX5_next 2 = .ok (.getfield 231, 3) := by decide +kernel
theorem dX5_next_5 : decode cX5_next 5 = .ok (.putfield 234, 3) := by decide +kernel
theorem dX5_next_8 : decode cX5_next 8 = .ok (.aload_n 0, 1) := by decide +kernel
theorem dX5_next_9 : decode cX5_next 9 = .ok (.aload_n 0, 1) := by decide +kernel
theorem dX5_next_10 : decode cX5_next 10 = .ok (.getfield 234, 3) := by decide +kernel
theorem dX5_next_13 : decode cX5_next 13 = .ok (.invokevirtual 237, 3) := by decide +kernel
theorem dX5_next_16 : decode cX5_next 16 = .ok (.bipush 32, 2) := by decide +kernel
theorem dX5_next_18 : decode cX5_next 18 = .ok (.if_icmp .ne 16, 3) := by decide +kernel
theorem dX5_next_21 : decode cX5_next 21 = .ok (.aload_n 0, 1) := by decide +kernel
theorem dX5_next_22 : decode cX5_next 22 = .ok (.dup, 1) := by decide +kernel
theorem dX5_next_23 : decode cX5_next 23 = .ok (.getfield 234, 3) := by decide +kernel
theorem dX5_next_26 : decode cX5_next 26 = .ok (.iconst 1, 1) := by decide +kernel
theorem dX5_next_27 : decode cX5_next 27 = .ok (.iadd, 1) := by decide +kernel
theorem dX5_next_28 : decode cX5_next 28 = .ok (.putfield 234, 3) := by decide +kernel
theorem dX5_next_31 : decode cX5_next 31 = .ok (.goto (-23), 3) := by decide +kernel
theorem dX5_next_34 : decode cX5_next 34 = .ok (.aload_n 0, 1) := by decide +kernel
theorem dX5_next_35 : decode cX5_next 35 = .ok (.aload_n 0, 1) := by decide +kernel
theorem dX5_next_36 : decode cX5_next 36 = .ok (.getfield 234, 3) := by decide +kernel
theorem dX5_next_39 : decode cX5_next 39 = .ok (.invokevirtual 237, 3) := by decide +kernel
theorem dX5_next_42 : decode cX5_next 42 = .ok (.istore_n 1, 1) := by decide +kernel
theorem dX5_next_43 : decode cX5_next 43 = .ok (.aload_n 0, 1) := by decide +kernel
theorem dX5_next_44 : decode cX5_next 44 = .ok (.aload_n 0, 1) := by decide +kernel
theorem dX5_next_45 : decode cX5_next 45 = .ok (.getfield 234, 3) := by decide +kernel
theorem dX5_next_48 : decode cX5_next 48 = .ok (.putfield 231, 3) := by decide +kernel
theorem dX5_next_51 : decode cX5_next 51 = .ok (.aload_n 0, 1) := by decide +kernel
theorem dX5_next_52 : decode cX5_next 52 = .ok (.iconst 0, 1) := by decide +kernel
theorem dX5_next_53 : decode cX5_next 53 = .ok (.putfield 240, 3) := by decide +kernel
theorem dX5_next_56 : decode cX5_next 56 = .ok (.iload_n 1, 1) := by decide +kernel
theorem dX5_next_57 : decode cX5_next 57 = .ok (.ifCond .ge 11, 3) := by decide +kernel
theorem dX5_next_60 : decode cX5_next 60 = .ok (.aload_n 0, 1) := by decide +kernel
theorem dX5_next_61 : decode cX5_next 61 = .ok (.iconst 0, 1) := by decide +kernel
theorem dX5_next_62 : decode cX5_next 62 = .ok (.putfield 243, 3) := by decide +kernel
theorem dX5_next_65 : decode cX5_next 65 = .ok (.goto 141, 3) := by decide +kernel
theorem dX5_next_68 : decode cX5_next 68 = .ok (.iload_n 1, 1) := by decide +kernel
theorem dX5_next_69 : decode cX5_next 69 = .ok (.bipush 97, 2) := by decide +kernel
theorem dX5_next_71 : decode cX5_next 71 = .ok (.bipush 122, 2) := by decide +kernel
theorem dX5_next_73 : decode cX5_next 73 = .ok (.invokestatic 73, 3) := by decide +kernel
theorem dX5_next_76 : decode cX5_next 76 = .ok (.ifCond .eq 39, 3) := by decide +kernel
theorem dX5_next_79 : decode cX5_next 79 = .ok (.aload_n 0, 1) := by decide +kernel
theorem dX5_next_80 : decode cX5_next 80 = .ok (.iconst 1, 1) := by decide +kernel
theorem dX5_next_81 : decode cX5_next 81 = .ok (.putfield 243, 3) := by decide +kernel
theorem dX5_next_84 : decode cX5_next 84 = .ok (.aload_n 0, 1) := by decide +kernel
theorem dX5_next_85 : decode cX5_next 85 = .ok (.aload_n 0, 1) := by decide +kernel
theorem dX5_next_86 : decode cX5_next 86 = .ok (.getfield 231, 3) := by decide +kernel
theorem dX5_next_89 : decode cX5_next 89 = .ok (.invokevirtual 237, 3) := by decide +kernel
theorem dX5_next_92 : decode cX5_next 92 = .ok (.bipush 97, 2) := by decide +kernel
theorem dX5_next_94 : decode cX5_next 94 = .ok (.bipush 122, 2) := by decide +kernel
theorem dX5_next_96 : decode cX5_next 96 = .ok (.invokestatic 73, 3) := by decide +kernel
theorem dX5_next_99 : decode cX5_next 99 = .ok (.ifCond .eq 107, 3) := by decide +kernel
theorem dX5_next_102 : decode cX5_next 102 = .ok (.aload_n 0, 1) := by decide +kernel
theorem dX5_next_103 : decode cX5_next 103 = .ok (.dup, 1) := by decide +kernel
theorem dX5_next_104 : decode cX5_next 104 = .ok (.getfield 231, 3) := by decide +kernel
theorem dX5_next_107 : decode cX5_next 107 = .ok (.iconst 1, 1) := by decide +kernel
theorem dX5_next_108 : decode cX5_next 108 = .ok (.iadd, 1) := by decide +kernel
theorem dX5_next_109 : decode cX5_next 109 = .ok (.putfield 231, 3) := by decide +kernel
theorem dX5_next_112 : decode cX5_next 112 = .ok (.goto (-28), 3) := by decide +kernel
theorem dX5_next_115 : decode cX5_next 115 = .ok (.iload_n 1, 1) := by decide +kernel
theorem dX5_next_116 : decode cX5_next 116 = .ok (.bipush 48, 2) := by decide +kernel
theorem dX5_next_118 : decode cX5_next 118 = .ok (.bipush 57, 2) := by decide +kernel
theorem dX5_next_120 : decode cX5_next 120 = .ok (.invokestatic 73, 3) := by decide +kernel
theorem dX5_next_123 : decode cX5_next 123 = .ok (.ifCond .eq 68, 3) := by decide +kernel
theorem dX5_next_126 : decode cX5_next 126 = .ok (.aload_n 0, 1) := by decide +kernel
theorem dX5_next_127 : decode cX5_next 127 = .ok (.iconst 2, 1) := by decide +kernel
theorem dX5_next_128 : decode cX5_next 128 = .ok (.putfield 243, 3) := by decide +kernel
theorem dX5_next_131 : decode cX5_next 131 = .ok (.aload_n 0, 1) := by decide +kernel
theorem dX5_next_132 : decode cX5_next 132 = .ok (.aload_n 0, 1) := by decide +kernel
theorem dX5_next_133 : decode cX5_next 133 = .ok (.getfield 231, 3) := by decide +kernel
theorem dX5_next_136 : decode cX5_next 136 = .ok (.invokevirtual 237, 3) := by decide +kernel
theorem dX5_next_139 : decode cX5_next 139 = .ok (.bipush 48, 2) := by decide +kernel
theorem dX5_next_141 : decode cX5_next 141 = .ok (.bipush 57, 2) := by decide +kernel
theorem dX5_next_143 : decode cX5_next 143 = .ok (.invokestatic 73, 3) := by decide +kernel
theorem dX5_next_146 : decode cX5_next 146 = .ok (.ifCond .eq 60, 3) := by decide +kernel
theorem dX5_next_149 : decode cX5_next 149 = .ok (.aload_n 0, 1) := by decide +kernel
theorem dX5_next_150 : decode cX5_next 150 = .ok (.sipush 1000, 3) := by decide +kernel
theorem dX5_next_153 : decode cX5_next 153 = .ok (.bipush 10, 2) := by decide +kernel
theorem dX5_next_155 : decode cX5_next 155 = .ok (.aload_n 0, 1) := by decide +kernel
theorem dX5_next_156 : decode cX5_next 156 = .ok (.getfield 240, 3) := by decide +kernel
theorem dX5_next_159 : decode cX5_next 159 = .ok (.imul, 1) := by decide +kernel
theorem dX5_next_160 : decode cX5_next 160 = .ok (.aload_n 0, 1) := by decide +kernel
theorem dX5_next_161 : decode cX5_next 161 = .ok (.aload_n 0, 1) := by decide +kernel
theorem dX5_next_162 : decode cX5_next 162 = .ok (.getfield 231, 3) := by decide +kernel
theorem dX5_next_165 : decode cX5_next 165 = .ok (.invokevirtual 237, 3) := by decide +kernel
theorem dX5_next_168 : decode cX5_next 168 = .ok (.iadd, 1) := by decide +kernel
theorem dX5_next_169 : decode cX5_next 169 = .ok (.bipush 48, 2) := by decide +kernel
theorem dX5_next_171 : decode cX5_next 171 = .ok (.isub, 1) := by decide +kernel
theorem dX5_next_172 : decode cX5_next 172 = .ok (.invokestatic 109, 3) := by decide +kernel
theorem dX5_next_175 : decode cX5_next 175 = .ok (.putfield 240, 3) := by decide +kernel
theorem dX5_next_178 : decode cX5_next 178 = .ok (.aload_n 0, 1) := by decide +kernel
theorem dX5_next_179 : decode cX5_next 179 = .ok (.dup, 1) := by decide +kernel
theorem dX5_next_180 : decode cX5_next 180 = .ok (.getfield 231, 3) := by decide +kernel
theorem dX5_next_183 : decode cX5_next 183 = .ok (.iconst 1, 1) := by decide +kernel
theorem dX5_next_184 : decode cX5_next 184 = .ok (.iadd, 1) := by decide +kernel
theorem dX5_next_185 : decode cX5_next 185 = .ok (.putfield 231, 3) := by decide +kernel
theorem dX5_next_188 : decode cX5_next 188 = .ok (.goto (-57), 3) := by decide +kernel
theorem dX5_next_191 : decode cX5_next 191 = .ok (.aload_n 0, 1) := by decide +kernel
theorem dX5_next_192 : decode cX5_next 192 = .ok (.iconst 3, 1) := by decide +kernel
theorem dX5_next_193 : decode cX5_next 193 = .ok (.putfield 243, 3) := by decide +kernel
theorem dX5_next_196 : decode cX5_next 196 = .ok (.aload_n 0, 1) := by decide +kernel
theorem dX5_next_197 : decode cX5_next 197 = .ok (.dup, 1) := by decide +kernel
theorem dX5_next_198 : decode cX5_next 198 = .ok (.getfield 231, 3) := by decide +kernel
theorem dX5_next_201 : decode cX5_next 201 = .ok (.iconst 1, 1) := by decide +kernel
theorem dX5_next_202 : decode cX5_next 202 = .ok (.iadd, 1) := by decide +kernel
theorem dX5_next_203 : decode cX5_next 203 = .ok (.putfield 231, 3) := by decide +kernel
theorem dX5_next_206 : decode cX5_next 206 = .ok (.return_, 1) := by decide +kernel
set_option maxHeartbeats 4000000 in
set_option maxRecDepth 100000 in
theorem g_X5_next {E : fh_E} {M : fh_M} (C : fh_Cx E M cX5_next 2 RX5 (none) rm_X5_next) (Hr : fh_Rt E M) (k1 : Nat) (σ2 : fh_S) : fh_Go E M 2 fh_vU 0 [(0, .ref (fh_ad E k1))] [] σ2 (f_X5_next k1 σ2) := by
  have hok := fh_cok C
  refine go_ob ?_
  refine go_aload_n C 0 rfl rfl dX5_next_0 ?_
  refine go_aload_n C 0 rfl rfl dX5_next_1 ?_
  refine go_gi (ci := 5) (j := 9) C fh_in5 rfl (by decide) rfl q_755 dX5_next_2 (fun v3 => ?_)
  refine go_pf (ci := 5) (j := 8) C tyX5 tyX5_ok nmX5 fh_in5 rfl (by decide) rfl q_754 rfl rfl dX5_next_5 (fun σ4 => ?_)
  refine go_fx (fun (r6 : fh_S → Option (Unit × fh_S)) => ∀  (σ5 : fh_S), fh_Go E M 2 fh_vU 8 [(0, .ref (fh_ad E k1))] [] σ5 (r6 σ5)) ?_ ?_ fh_fu σ4
  · intro σ5
    exact go_none
  · intro r6 hr6 σ5
    refine go_aload_n C 0 rfl rfl dX5_next_8 ?_
    refine go_aload_n C 0 rfl rfl dX5_next_9 ?_
    refine go_gi (ci := 5) (j := 8) C fh_in5 rfl (by decide) rfl q_754 dX5_next_10 (fun v7 => ?_)
    refine go_callVI C (st := []) [.int v7] (m_X5_byteAt E _ hok k1 v7 σ5) (fun _ h => fh_ob_ok h) rfl rfl ⟨q_1134, q_1136, qs_54, q_6, q_1137⟩ pd_X5_byteAt rfl ⟨⟨Nat.le_of_ble_eq_true rfl, Nat.le_of_ble_eq_true rfl⟩, rfl, rfl⟩ (Nat.le_of_ble_eq_true rfl) dX5_next_13 (fun r9 σ8 => ?_)
    refine go_bipush C (32 : Int32) dX5_next_16 rfl ?_
    refine go_icmp_ne (tgt := 34) C dX5_next_18 rfl (fun _ => ?_) (fun _ => ?_)
    · refine go_aload_n C 0 rfl rfl dX5_next_34 ?_
      refine go_aload_n C 0 rfl rfl dX5_next_35 ?_
      refine go_gi (ci := 5) (j := 8) C fh_in5 rfl (by decide) rfl q_754 dX5_next_36 (fun v10 => ?_)
      refine go_callVI C (st := []) [.int v10] (m_X5_byteAt E _ hok k1 v10 σ8) (fun _ h => fh_ob_ok h) rfl rfl ⟨q_1134, q_1136, qs_54, q_6, q_1137⟩ pd_X5_byteAt rfl ⟨⟨Nat.le_of_ble_eq_true rfl, Nat.le_of_ble_eq_true rfl⟩, rfl, rfl⟩ (Nat.le_of_ble_eq_true rfl) dX5_next_39 (fun r12 σ11 => ?_)
      refine go_istore_n C [(1, .int r12), (0, .ref (fh_ad E k1))] rfl rfl (by decide) dX5_next_42 ?_
      refine go_aload_n C 1 rfl rfl dX5_next_43 ?_
      refine go_aload_n C 1 rfl rfl dX5_next_44 ?_
      refine go_gi (ci := 5) (j := 8) C fh_in5 rfl (by decide) rfl q_754 dX5_next_45 (fun v13 => ?_)
      refine go_pf (ci := 5) (j := 9) C tyX5 tyX5_ok nmX5 fh_in5 rfl (by decide) rfl q_755 rfl rfl dX5_next_48 (fun σ14 => ?_)
      refine go_aload_n C 1 rfl rfl dX5_next_51 ?_
      refine go_iconst C (0 : Int32) dX5_next_52 rfl ?_
      refine go_pf (ci := 5) (j := 11) C tyX5 tyX5_ok nmX5 fh_in5 rfl (by decide) rfl q_757 rfl rfl dX5_next_53 (fun σ15 => ?_)
      refine go_iload_n C 0 rfl rfl dX5_next_56 ?_
      refine go_if_ge (tgt := 68) C dX5_next_57 rfl (fun _ => ?_) (fun _ => ?_)
      · refine go_iload_n C 0 rfl rfl dX5_next_68 ?_
        refine go_bipush C (97 : Int32) dX5_next_69 rfl ?_
        refine go_bipush C (122 : Int32) dX5_next_71 rfl ?_
        refine go_callSI C (st := []) [.int r12, .int ((97 : Int32)), .int ((122 : Int32))] (m_X5_within E _ hok r12 ((97 : Int32)) ((122 : Int32)) σ15) rfl ⟨q_817, q_818, q_6, q_819⟩ pd_X5_within rfl ⟨⟨Nat.le_of_ble_eq_true rfl, Nat.le_of_ble_eq_true rfl⟩, rfl, rfl⟩ (Nat.le_of_ble_eq_true rfl) dX5_next_73 (fun r17 σ16 => ?_)
        refine go_if_eq (tgt := 115) C dX5_next_76 rfl (fun _ => ?_) (fun _ => ?_)
        · refine go_iload_n C 0 rfl rfl dX5_next_115 ?_
          refine go_bipush C (48 : Int32) dX5_next_116 rfl ?_
          refine go_bipush C (57 : Int32) dX5_next_118 rfl ?_
          refine go_callSI C (st := []) [.int r12, .int ((48 : Int32)), .int ((57 : Int32))] (m_X5_within E _ hok r12 ((48 : Int32)) ((57 : Int32)) σ16) rfl ⟨q_817, q_818, q_6, q_819⟩ pd_X5_within rfl ⟨⟨Nat.le_of_ble_eq_true rfl, Nat.le_of_ble_eq_true rfl⟩, rfl, rfl⟩ (Nat.le_of_ble_eq_true rfl) dX5_next_120 (fun r19 σ18 => ?_)
          refine go_if_eq (tgt := 191) C dX5_next_123 rfl (fun _ => ?_) (fun _ => ?_)
          · refine go_aload_n C 1 rfl rfl dX5_next_191 ?_
            refine go_iconst C (3 : Int32) dX5_next_192 rfl ?_
            refine go_pf (ci := 5) (j := 10) C tyX5 tyX5_ok nmX5 fh_in5 rfl (by decide) rfl q_756 rfl rfl dX5_next_193 (fun σ20 => ?_)
            refine go_aload_n C 1 rfl rfl dX5_next_196 ?_
            refine go_dup C rfl dX5_next_197 ?_
            refine go_gi (ci := 5) (j := 9) C fh_in5 rfl (by decide) rfl q_755 dX5_next_198 (fun v21 => ?_)
            refine go_iconst C (1 : Int32) dX5_next_201 rfl ?_
            refine go_iadd C dX5_next_202 ?_
            refine go_pf (ci := 5) (j := 9) C tyX5 tyX5_ok nmX5 fh_in5 rfl (by decide) rfl q_755 rfl rfl dX5_next_203 (fun σ22 => ?_)
            exact go_vret C Hr rfl dX5_next_206
          · refine go_aload_n C 1 rfl rfl dX5_next_126 ?_
            refine go_iconst C (2 : Int32) dX5_next_127 rfl ?_
            refine go_pf (ci := 5) (j := 10) C tyX5 tyX5_ok nmX5 fh_in5 rfl (by decide) rfl q_756 rfl rfl dX5_next_128 (fun σ23 => ?_)
            refine go_lv [1] (lv' := [(0, .ref (fh_ad E k1))]) rfl ?_
            refine go_fx (fun (r25 : fh_S → Option (Unit × fh_S)) => ∀  (σ24 : fh_S), fh_Go E M 2 fh_vU 131 [(0, .ref (fh_ad E k1))] [] σ24 (r25 σ24)) ?_ ?_ fh_fu σ23
            · intro σ24
              exact go_none
            · intro r25 hr25 σ24
              refine go_aload_n C 0 rfl rfl dX5_next_131 ?_
              refine go_aload_n C 0 rfl rfl dX5_next_132 ?_
              refine go_gi (ci := 5) (j := 9) C fh_in5 rfl (by decide) rfl q_755 dX5_next_133 (fun v26 => ?_)
              refine go_callVI C (st := []) [.int v26] (m_X5_byteAt E _ hok k1 v26 σ24) (fun _ h => fh_ob_ok h) rfl rfl ⟨q_1134, q_1136, qs_54, q_6, q_1137⟩ pd_X5_byteAt rfl ⟨⟨Nat.le_of_ble_eq_true rfl, Nat.le_of_ble_eq_true rfl⟩, rfl, rfl⟩ (Nat.le_of_ble_eq_true rfl) dX5_next_136 (fun r28 σ27 => ?_)
              refine go_bipush C (48 : Int32) dX5_next_139 rfl ?_
              refine go_bipush C (57 : Int32) dX5_next_141 rfl ?_
              refine go_callSI C (st := []) [.int r28, .int ((48 : Int32)), .int ((57 : Int32))] (m_X5_within E _ hok r28 ((48 : Int32)) ((57 : Int32)) σ27) rfl ⟨q_817, q_818, q_6, q_819⟩ pd_X5_within rfl ⟨⟨Nat.le_of_ble_eq_true rfl, Nat.le_of_ble_eq_true rfl⟩, rfl, rfl⟩ (Nat.le_of_ble_eq_true rfl) dX5_next_143 (fun r30 σ29 => ?_)
              refine go_if_eq (tgt := 206) C dX5_next_146 rfl (fun _ => ?_) (fun _ => ?_)
              · exact go_vret C Hr rfl dX5_next_206
              · refine go_aload_n C 0 rfl rfl dX5_next_149 ?_
                refine go_sipush C (1000 : Int32) dX5_next_150 rfl ?_
                refine go_bipush C (10 : Int32) dX5_next_153 rfl ?_
                refine go_aload_n C 0 rfl rfl dX5_next_155 ?_
                refine go_gi (ci := 5) (j := 11) C fh_in5 rfl (by decide) rfl q_757 dX5_next_156 (fun v31 => ?_)
                refine go_imul C dX5_next_159 ?_
                refine go_aload_n C 0 rfl rfl dX5_next_160 ?_
                refine go_aload_n C 0 rfl rfl dX5_next_161 ?_
                refine go_gi (ci := 5) (j := 9) C fh_in5 rfl (by decide) rfl q_755 dX5_next_162 (fun v32 => ?_)
                refine go_callVI C (st := [.int (((10 : Int32)) * v31), .int ((1000 : Int32)), .ref (fh_ad E k1)]) [.int v32] (m_X5_byteAt E _ hok k1 v32 σ29) (fun _ h => fh_ob_ok h) rfl rfl ⟨q_1134, q_1136, qs_54, q_6, q_1137⟩ pd_X5_byteAt rfl ⟨⟨Nat.le_of_ble_eq_true rfl, Nat.le_of_ble_eq_true rfl⟩, rfl, rfl⟩ (Nat.le_of_ble_eq_true rfl) dX5_next_165 (fun r34 σ33 => ?_)
                refine go_iadd C dX5_next_168 ?_
                refine go_bipush C (48 : Int32) dX5_next_169 rfl ?_
                refine go_isub C dX5_next_171 ?_
                refine go_callSI C (st := [.ref (fh_ad E k1)]) [.int ((1000 : Int32)), .int (((((10 : Int32)) * v31) + r34) - ((48 : Int32)))] (m_J9_min_7cf53 E _ hok ((1000 : Int32)) (((((10 : Int32)) * v31) + r34) - ((48 : Int32))) σ33) rfl ⟨q_861, q_190, q_7, q_191⟩ pd_J9_min_7cf53 rfl ⟨⟨Nat.le_of_ble_eq_true rfl, Nat.le_of_ble_eq_true rfl⟩, rfl, rfl⟩ (Nat.le_of_ble_eq_true rfl) dX5_next_172 (fun r36 σ35 => ?_)
                refine go_pf (ci := 5) (j := 11) C tyX5 tyX5_ok nmX5 fh_in5 rfl (by decide) rfl q_757 rfl rfl dX5_next_175 (fun σ37 => ?_)
                refine go_aload_n C 0 rfl rfl dX5_next_178 ?_
                refine go_dup C rfl dX5_next_179 ?_
                refine go_gi (ci := 5) (j := 9) C fh_in5 rfl (by decide) rfl q_755 dX5_next_180 (fun v38 => ?_)
                refine go_iconst C (1 : Int32) dX5_next_183 rfl ?_
                refine go_iadd C dX5_next_184 ?_
                refine go_pf (ci := 5) (j := 9) C tyX5 tyX5_ok nmX5 fh_in5 rfl (by decide) rfl q_755 rfl rfl dX5_next_185 (fun σ39 => ?_)
                refine go_goto C 131 dX5_next_188 rfl ?_
                exact hr25 σ39
        · refine go_aload_n C 1 rfl rfl dX5_next_79 ?_
          refine go_iconst C (1 : Int32) dX5_next_80 rfl ?_
          refine go_pf (ci := 5) (j := 10) C tyX5 tyX5_ok nmX5 fh_in5 rfl (by decide) rfl q_756 rfl rfl dX5_next_81 (fun σ40 => ?_)
          refine go_lv [1] (lv' := [(0, .ref (fh_ad E k1))]) rfl ?_
          refine go_fx (fun (r42 : fh_S → Option (Unit × fh_S)) => ∀  (σ41 : fh_S), fh_Go E M 2 fh_vU 84 [(0, .ref (fh_ad E k1))] [] σ41 (r42 σ41)) ?_ ?_ fh_fu σ40
          · intro σ41
            exact go_none
          · intro r42 hr42 σ41
            refine go_aload_n C 0 rfl rfl dX5_next_84 ?_
            refine go_aload_n C 0 rfl rfl dX5_next_85 ?_
            refine go_gi (ci := 5) (j := 9) C fh_in5 rfl (by decide) rfl q_755 dX5_next_86 (fun v43 => ?_)
            refine go_callVI C (st := []) [.int v43] (m_X5_byteAt E _ hok k1 v43 σ41) (fun _ h => fh_ob_ok h) rfl rfl ⟨q_1134, q_1136, qs_54, q_6, q_1137⟩ pd_X5_byteAt rfl ⟨⟨Nat.le_of_ble_eq_true rfl, Nat.le_of_ble_eq_true rfl⟩, rfl, rfl⟩ (Nat.le_of_ble_eq_true rfl) dX5_next_89 (fun r45 σ44 => ?_)
            refine go_bipush C (97 : Int32) dX5_next_92 rfl ?_
            refine go_bipush C (122 : Int32) dX5_next_94 rfl ?_
            refine go_callSI C (st := []) [.int r45, .int ((97 : Int32)), .int ((122 : Int32))] (m_X5_within E _ hok r45 ((97 : Int32)) ((122 : Int32)) σ44) rfl ⟨q_817, q_818, q_6, q_819⟩ pd_X5_within rfl ⟨⟨Nat.le_of_ble_eq_true rfl, Nat.le_of_ble_eq_true rfl⟩, rfl, rfl⟩ (Nat.le_of_ble_eq_true rfl) dX5_next_96 (fun r47 σ46 => ?_)
            refine go_if_eq (tgt := 206) C dX5_next_99 rfl (fun _ => ?_) (fun _ => ?_)
            · exact go_vret C Hr rfl dX5_next_206
            · refine go_aload_n C 0 rfl rfl dX5_next_102 ?_
              refine go_dup C rfl dX5_next_103 ?_
              refine go_gi (ci := 5) (j := 9) C fh_in5 rfl (by decide) rfl q_755 dX5_next_104 (fun v48 => ?_)
              refine go_iconst C (1 : Int32) dX5_next_107 rfl ?_
              refine go_iadd C dX5_next_108 ?_
              refine go_pf (ci := 5) (j := 9) C tyX5 tyX5_ok nmX5 fh_in5 rfl (by decide) rfl q_755 rfl rfl dX5_next_109 (fun σ49 => ?_)
              refine go_goto C 84 dX5_next_112 rfl ?_
              exact hr42 σ49
      · refine go_aload_n C 1 rfl rfl dX5_next_60 ?_
        refine go_iconst C (0 : Int32) dX5_next_61 rfl ?_
        refine go_pf (ci := 5) (j := 10) C tyX5 tyX5_ok nmX5 fh_in5 rfl (by decide) rfl q_756 rfl rfl dX5_next_62 (fun σ50 => ?_)
        refine go_goto C 206 dX5_next_65 rfl ?_
        exact go_vret C Hr rfl dX5_next_206
    · refine go_aload_n C 0 rfl rfl dX5_next_21 ?_
      refine go_dup C rfl dX5_next_22 ?_
      refine go_gi (ci := 5) (j := 8) C fh_in5 rfl (by decide) rfl q_754 dX5_next_23 (fun v51 => ?_)
      refine go_iconst C (1 : Int32) dX5_next_26 rfl ?_
      refine go_iadd C dX5_next_27 ?_
      refine go_pf (ci := 5) (j := 8) C tyX5 tyX5_ok nmX5 fh_in5 rfl (by decide) rfl q_754 rfl rfl dX5_next_28 (fun σ52 => ?_)
      refine go_goto C 8 dX5_next_31 rfl ?_
      exact hr6 σ52
theorem m_X5_next (E : fh_E) (l : Launch) (hok : fh_ok E) (k1 : Nat) (σ2 : fh_S) : fh_Met E l yX5_next cX5_next 2 (none) rm_X5_next fh_vU [.ref (fh_ad E k1)] σ2 (f_X5_next k1 σ2) := fh_met hok (by decide +kernel) (Nat.le_of_ble_eq_true rfl) (fun M _ C Hr => g_X5_next C Hr k1 σ2)
def f_X5_isWord_J68 (r10 : Int32 → Int32 → fh_S → Option (Int32 × fh_S)) (x8 : Int32) : Int32 → fh_S → Option (Int32 × fh_S) := fun x18 σ19 => r10 x18 (x8 + 1) σ19
def f_X5_isWord_B32 (i2 : Nat) (k1 : Nat) (r10 : Int32 → Int32 → fh_S → Option (Int32 × fh_S)) : Int32 → Int32 → fh_S → Option (Int32 × fh_S) := fun x7 x8 σ9 => fh_cb (f_J0_length_8abf5 i2 σ9) fun r12 σ11 => if r12 ≤ x8 then fh_rz x7 σ11 else if x7 = 0 then fh_rz x7 σ11 else (fh_gr 5 k1 6).bind fun k13 => (fh_gi σ11 5 k1 8).bind fun v14 => (fh_ld σ11 k13 (v14 + x8)).bind fun v15 => fh_cb (f_J0_charAt_5068e i2 x8 σ11) fun r17 σ16 => fh_jn (f_X5_isWord_J68 r10 x8) (fun j20 => if v15 = r17 then j20 ((1 : Int32)) σ16 else j20 ((0 : Int32)) σ16)
def f_X5_isWord_J29 (i2 : Nat) (k1 : Nat) : Int32 → fh_S → Option (Int32 × fh_S) := fun x5 σ6 => fh_fx (ρ := Int32 → Int32 → fh_S → Option (Int32 × fh_S)) (fun _ _ _ => none) (f_X5_isWord_B32 i2 k1) fh_fu x5 ((0 : Int32)) σ6
def f_X5_isWord_J28 (j21 : Int32 → fh_S → Option (Int32 × fh_S)) : fh_S → Option (Int32 × fh_S) := fun σ22 => j21 ((0 : Int32)) σ22
def f_X5_isWord (k1 : Nat) (i2 : Nat) (σ3 : fh_S) : Option (Int32 × fh_S) := fh_ob 5 k1 ((fh_gi σ3 5 k1 10).bind fun v4 => fh_jn (f_X5_isWord_J29 i2 k1) (fun j21 => fh_jn (f_X5_isWord_J28 j21) (fun j23 => if v4 = ((1 : Int32)) then (fh_gi σ3 5 k1 9).bind fun v24 => (fh_gi σ3 5 k1 8).bind fun v25 => fh_cb (f_J0_length_8abf5 i2 σ3) fun r27 σ26 => if (v24 - v25) = r27 then j21 ((1 : Int32)) σ26 else j23 σ26 else j23 σ3)))
abbrev rm_X5_isWord : Room := { frames := 4, cells := 0, slots := 0, locals := 85 }
theorem pd_X5_isWord : yX5_isWord.cls ≠ "java/lang/invoke/MethodHandle" ∧ yX5_isWord.cls ≠ "java/lang/invoke/VarHandle" ∧ (parseMethodDescriptor yX5_isWord.desc).map (fun d => d.parameters.length) = some 1 := by decide +kernel
theorem dX5_isWord_0 : decode cX5_isWord 0 = .ok (.aload_n 0, 1) := by decide +kernel
theorem dX5_isWord_1 : decode cX5_isWord 1 = .ok (.getfield 243, 3) := by decide +kernel
theorem dX5_isWord_4 : decode cX5_isWord 4 = .ok (.iconst 1, 1) := by decide +kernel
theorem dX5_isWord_5 : decode cX5_isWord 5 = .ok (.if_icmp .ne 23, 3) := by decide +kernel
theorem dX5_isWord_8 : decode cX5_isWord 8 = .ok (.aload_n 0, 1) := by decide +kernel
theorem dX5_isWord_9 : decode cX5_isWord 9 = .ok (.getfield 231, 3) := by decide +kernel
theorem dX5_isWord_12 : decode cX5_isWord 12 = .ok (.aload_n 0, 1) := by decide +kernel
theorem dX5_isWord_13 : decode cX5_isWord 13 = .ok (.getfield 234, 3) := by decide +kernel
theorem dX5_isWord_16 : decode cX5_isWord 16 = .ok (.isub, 1) := by decide +kernel
theorem dX5_isWord_17 : decode cX5_isWord 17 = .ok (.aload_n 1, 1) := by decide +kernel
theorem dX5_isWord_18 : decode cX5_isWord 18 = .ok (.invokevirtual 246, 3) := by decide +kernel
theorem dX5_isWord_21 : decode cX5_isWord 21 = .ok (.if_icmp .ne 7, 3) := by decide +kernel
theorem dX5_isWord_24 : decode cX5_isWord 24 = .ok (.iconst 1, 1) := by decide +kernel
theorem dX5_isWord_25 : decode cX5_isWord 25 = .ok (.goto 4, 3) := by decide +kernel
theorem dX5_isWord_28 : decode cX5_isWord 28 = .ok (.iconst 0, 1) := by decide +kernel
theorem dX5_isWord_29 : decode cX5_isWord 29 = .ok (.istore_n 2, 1) := by decide +kernel
theorem dX5_isWord_30 : decode cX5_isWord 30 = .ok (.iconst 0, 1) := by decide +kernel
theorem dX5_isWord_31 : decode cX5_isWord 31 = .ok (.istore_n 3, 1) := by decide +kernel
theorem dX5_isWord_32 : decode cX5_isWord 32 = .ok (.iload_n 3, 1) := by decide +kernel
theorem dX5_isWord_33 : decode cX5_isWord 33 = .ok (.aload_n 1, 1) := by decide +kernel
theorem dX5_isWord_34 : decode cX5_isWord 34 = .ok (.invokevirtual 246, 3) := by decide +kernel
theorem dX5_isWord_37 : decode cX5_isWord 37 = .ok (.if_icmp .ge 38, 3) := by decide +kernel
theorem dX5_isWord_40 : decode cX5_isWord 40 = .ok (.iload_n 2, 1) := by decide +kernel
theorem dX5_isWord_41 : decode cX5_isWord 41 = .ok (.ifCond .eq 34, 3) := by decide +kernel
theorem dX5_isWord_44 : decode cX5_isWord 44 = .ok (.aload_n 0, 1) := by decide +kernel
theorem dX5_isWord_45 : decode cX5_isWord 45 = .ok (.getfield 25, 3) := by decide +kernel
theorem dX5_isWord_48 : decode cX5_isWord 48 = .ok (.aload_n 0, 1) := by decide +kernel
theorem dX5_isWord_49 : decode cX5_isWord 49 = .ok (.getfield 234, 3) := by decide +kernel
theorem dX5_isWord_52 : decode cX5_isWord 52 = .ok (.iload_n 3, 1) := by decide +kernel
theorem dX5_isWord_53 : decode cX5_isWord 53 = .ok (.iadd, 1) := by decide +kernel
theorem dX5_isWord_54 : decode cX5_isWord 54 = .ok (.iaload, 1) := by decide +kernel
theorem dX5_isWord_55 : decode cX5_isWord 55 = .ok (.aload_n 1, 1) := by decide +kernel
theorem dX5_isWord_56 : decode cX5_isWord 56 = .ok (.iload_n 3, 1) := by decide +kernel
theorem dX5_isWord_57 : decode cX5_isWord 57 = .ok (.invokevirtual 249, 3) := by decide +kernel
theorem dX5_isWord_60 : decode cX5_isWord 60 = .ok (.if_icmp .ne 7, 3) := by decide +kernel
theorem dX5_isWord_63 : decode cX5_isWord 63 = .ok (.iconst 1, 1) := by decide +kernel
theorem dX5_isWord_64 : decode cX5_isWord 64 = .ok (.goto 4, 3) := by decide +kernel
theorem dX5_isWord_67 : decode cX5_isWord 67 = .ok (.iconst 0, 1) := by decide +kernel
theorem dX5_isWord_68 : decode cX5_isWord 68 = .ok (.istore_n 2, 1) := by decide +kernel
theorem dX5_isWord_69 : decode cX5_isWord 69 = .ok (.iinc 3 1, 3) := by decide +kernel
theorem dX5_isWord_72 : decode cX5_isWord 72 = .ok (.goto (-40), 3) := by decide +kernel
theorem dX5_isWord_75 : decode cX5_isWord 75 = .ok (.iload_n 2, 1) := by decide +kernel
theorem dX5_isWord_76 : decode cX5_isWord 76 = .ok (.ireturn, 1) := by decide +kernel
set_option maxHeartbeats 4000000 in
set_option maxRecDepth 100000 in
theorem g_X5_isWord {E : fh_E} {M : fh_M} (C : fh_Cx E M cX5_isWord 4 RX5 ((some FieldType.boolean)) rm_X5_isWord) (Hr : fh_Rt E M) (k1 : Nat) (i2 : Nat) (σ3 : fh_S) : fh_Go E M 4 fh_vI 0 [(0, .ref (fh_ad E k1)), (1, .ref (fh_aK E i2))] [] σ3 (f_X5_isWord k1 i2 σ3) := by
  have hok := fh_cok C
  refine go_ob ?_
  refine go_aload_n C 0 rfl rfl dX5_isWord_0 ?_
  refine go_gi (ci := 5) (j := 10) C fh_in5 rfl (by decide) rfl q_756 dX5_isWord_1 (fun v4 => ?_)
  refine go_iconst C (1 : Int32) dX5_isWord_4 rfl ?_
  refine go_jn (fun (j21 : Int32 → fh_S → Option (Int32 × fh_S)) => ∀ (x5 : Int32) (σ6 : fh_S), fh_Go E M 4 fh_vI 29 [(0, .ref (fh_ad E k1)), (1, .ref (fh_aK E i2))] [.int x5] σ6 (j21 x5 σ6)) ?_ (fun j21 hj21 => ?_)
  · intro x5 σ6
    refine go_istore_n C [(2, .int x5), (0, .ref (fh_ad E k1)), (1, .ref (fh_aK E i2))] rfl rfl (by decide) dX5_isWord_29 ?_
    refine go_iconst C (0 : Int32) dX5_isWord_30 rfl ?_
    refine go_istore_n C [(3, .int ((0 : Int32))), (2, .int x5), (0, .ref (fh_ad E k1)), (1, .ref (fh_aK E i2))] rfl rfl (by decide) dX5_isWord_31 ?_
    refine go_lv [2, 3, 1, 0] (lv' := [(0, .ref (fh_ad E k1)), (1, .ref (fh_aK E i2)), (2, .int x5), (3, .int ((0 : Int32)))]) rfl ?_
    refine go_fx (fun (r10 : Int32 → Int32 → fh_S → Option (Int32 × fh_S)) => ∀ (x7 : Int32) (x8 : Int32) (σ9 : fh_S), fh_Go E M 4 fh_vI 32 [(0, .ref (fh_ad E k1)), (1, .ref (fh_aK E i2)), (2, .int x7), (3, .int x8)] [] σ9 (r10 x7 x8 σ9)) ?_ ?_ fh_fu x5 ((0 : Int32)) σ6
    · intro x7 x8 σ9
      exact go_none
    · intro r10 hr10 x7 x8 σ9
      refine go_iload_n C 3 rfl rfl dX5_isWord_32 ?_
      refine go_aload_n C 1 rfl rfl dX5_isWord_33 ?_
      refine go_callXI C (st := [.int x8]) [] (m_J0_length_8abf5 E _ hok i2 σ9) (fun _ h => fh_sg_ok h) rfl rfl ⟨q_1150, q_567, q_568, q_10, q_569⟩ pd_J0_length_8abf5 rfl ⟨⟨Nat.le_of_ble_eq_true rfl, Nat.le_of_ble_eq_true rfl⟩, rfl, rfl⟩ (Nat.le_of_ble_eq_true rfl) dX5_isWord_34 (fun r12 σ11 => ?_)
      refine go_icmp_ge (tgt := 75) C dX5_isWord_37 rfl (fun _ => ?_) (fun _ => ?_)
      · refine go_iload_n C 2 rfl rfl dX5_isWord_75 ?_
        exact go_zret C Hr dX5_isWord_76
      · refine go_iload_n C 2 rfl rfl dX5_isWord_40 ?_
        refine go_if_eq (tgt := 75) C dX5_isWord_41 rfl (fun _ => ?_) (fun _ => ?_)
        · refine go_iload_n C 2 rfl rfl dX5_isWord_75 ?_
          exact go_zret C Hr dX5_isWord_76
        · refine go_aload_n C 0 rfl rfl dX5_isWord_44 ?_
          refine go_gr (ci := 5) (j := 6) C fh_in5 rfl (by decide) rfl q_752 dX5_isWord_45 (fun k13 => ?_)
          refine go_aload_n C 0 rfl rfl dX5_isWord_48 ?_
          refine go_gi (ci := 5) (j := 8) C fh_in5 rfl (by decide) rfl q_754 dX5_isWord_49 (fun v14 => ?_)
          refine go_iload_n C 3 rfl rfl dX5_isWord_52 ?_
          refine go_iadd C dX5_isWord_53 ?_
          refine go_iald C dX5_isWord_54 (fun v15 => ?_)
          refine go_aload_n C 1 rfl rfl dX5_isWord_55 ?_
          refine go_iload_n C 3 rfl rfl dX5_isWord_56 ?_
          refine go_callXI C (st := [.int v15]) [.int x8] (m_J0_charAt_5068e E _ hok i2 x8 σ11) (fun _ h => fh_sg_ok h) rfl rfl ⟨q_1151, q_577, q_578, q_10, q_579⟩ pd_J0_charAt_5068e rfl ⟨⟨Nat.le_of_ble_eq_true rfl, Nat.le_of_ble_eq_true rfl⟩, rfl, rfl⟩ (Nat.le_of_ble_eq_true rfl) dX5_isWord_57 (fun r17 σ16 => ?_)
          refine go_jn (fun (j20 : Int32 → fh_S → Option (Int32 × fh_S)) => ∀ (x18 : Int32) (σ19 : fh_S), fh_Go E M 4 fh_vI 68 [(0, .ref (fh_ad E k1)), (1, .ref (fh_aK E i2)), (3, .int x8)] [.int x18] σ19 (j20 x18 σ19)) ?_ (fun j20 hj20 => ?_)
          · intro x18 σ19
            refine go_istore_n C [(2, .int x18), (0, .ref (fh_ad E k1)), (1, .ref (fh_aK E i2)), (3, .int x8)] rfl rfl (by decide) dX5_isWord_68 ?_
            refine go_iinc C (x8 + 1) 3 [(3, .int (x8 + 1)), (2, .int x18), (0, .ref (fh_ad E k1)), (1, .ref (fh_aK E i2))] rfl rfl rfl (by decide) dX5_isWord_69 ?_
            refine go_goto C 32 dX5_isWord_72 rfl ?_
            refine go_lv [2, 3, 1, 0] (lv' := [(0, .ref (fh_ad E k1)), (1, .ref (fh_aK E i2)), (2, .int x18), (3, .int (x8 + 1))]) rfl ?_
            exact hr10 x18 (x8 + 1) σ19
          refine go_icmp_ne (tgt := 67) C dX5_isWord_60 rfl (fun _ => ?_) (fun _ => ?_)
          · refine go_iconst C (0 : Int32) dX5_isWord_67 rfl ?_
            refine go_lv [0, 1, 3] (lv' := [(0, .ref (fh_ad E k1)), (1, .ref (fh_aK E i2)), (3, .int x8)]) rfl ?_
            exact hj20 ((0 : Int32)) σ16
          · refine go_iconst C (1 : Int32) dX5_isWord_63 rfl ?_
            refine go_goto C 68 dX5_isWord_64 rfl ?_
            refine go_lv [0, 1, 3] (lv' := [(0, .ref (fh_ad E k1)), (1, .ref (fh_aK E i2)), (3, .int x8)]) rfl ?_
            exact hj20 ((1 : Int32)) σ16
  refine go_jn (fun (j23 : fh_S → Option (Int32 × fh_S)) => ∀ (σ22 : fh_S), fh_Go E M 4 fh_vI 28 [(0, .ref (fh_ad E k1)), (1, .ref (fh_aK E i2))] [] σ22 (j23 σ22)) ?_ (fun j23 hj23 => ?_)
  · intro σ22
    refine go_iconst C (0 : Int32) dX5_isWord_28 rfl ?_
    exact hj21 ((0 : Int32)) σ22
  refine go_icmp_ne (tgt := 28) C dX5_isWord_5 rfl (fun _ => ?_) (fun _ => ?_)
  · exact hj23 σ3
  · refine go_aload_n C 0 rfl rfl dX5_isWord_8 ?_
    refine go_gi (ci := 5) (j := 9) C fh_in5 rfl (by decide) rfl q_755 dX5_isWord_9 (fun v24 => ?_)
    refine go_aload_n C 0 rfl rfl dX5_isWord_12 ?_
    refine go_gi (ci := 5) (j := 8) C fh_in5 rfl (by decide) rfl q_754 dX5_isWord_13 (fun v25 => ?_)
    refine go_isub C dX5_isWord_16 ?_
    refine go_aload_n C 1 rfl rfl dX5_isWord_17 ?_
    refine go_callXI C (st := [.int (v24 - v25)]) [] (m_J0_length_8abf5 E _ hok i2 σ3) (fun _ h => fh_sg_ok h) rfl rfl ⟨q_1150, q_567, q_568, q_10, q_569⟩ pd_J0_length_8abf5 rfl ⟨⟨Nat.le_of_ble_eq_true rfl, Nat.le_of_ble_eq_true rfl⟩, rfl, rfl⟩ (Nat.le_of_ble_eq_true rfl) dX5_isWord_18 (fun r27 σ26 => ?_)
    refine go_icmp_ne (tgt := 28) C dX5_isWord_21 rfl (fun _ => ?_) (fun _ => ?_)
    · exact hj23 σ26
    · refine go_iconst C (1 : Int32) dX5_isWord_24 rfl ?_
      refine go_goto C 29 dX5_isWord_25 rfl ?_
      exact hj21 ((1 : Int32)) σ26
theorem m_X5_isWord (E : fh_E) (l : Launch) (hok : fh_ok E) (k1 : Nat) (i2 : Nat) (σ3 : fh_S) : fh_Met E l yX5_isWord cX5_isWord 4 ((some FieldType.boolean)) rm_X5_isWord fh_vI [.ref (fh_ad E k1), .ref (fh_aK E i2)] σ3 (f_X5_isWord k1 i2 σ3) := fh_met hok (by decide +kernel) (Nat.le_of_ble_eq_true rfl) (fun M _ C Hr => g_X5_isWord C Hr k1 i2 σ3)
def f_X5_must_J17 (k1 : Nat) : Int32 → fh_S → Option (Unit × fh_S) := fun x5 σ6 => (fh_pz σ6 5 k1 12 x5).bind fun σ7 => (fh_gi σ7 5 k1 12).bind fun v8 => if v8 = 0 then fh_cb (f_X5_next k1 σ7) fun _ σ9 => some ((), σ9) else some ((), σ7)
def f_X5_must_J12 (j10 : Int32 → fh_S → Option (Unit × fh_S)) : fh_S → Option (Unit × fh_S) := fun σ11 => j10 ((1 : Int32)) σ11
def f_X5_must (k1 : Nat) (a2 : Int32) (σ3 : fh_S) : Option (Unit × fh_S) := fh_ob 5 k1 ((fh_gi σ3 5 k1 12).bind fun v4 => fh_jn (f_X5_must_J17 k1) (fun j10 => fh_jn (f_X5_must_J12 j10) (fun j12 => if v4 = 0 then if a2 = 0 then j12 σ3 else j10 ((0 : Int32)) σ3 else j12 σ3)))
abbrev rm_X5_must : Room := { frames := 2, cells := 0, slots := 0, locals := 43 }
theorem pd_X5_must : yX5_must.cls ≠ "java/lang/invoke/MethodHandle" ∧ yX5_must.cls ≠ "java/lang/invoke/VarHandle" ∧ (parseMethodDescriptor yX5_must.desc).map (fun d => d.parameters.length) = some 1 := by decide +kernel
theorem dX5_must_0 : decode cX5_must 0 = .ok (.aload_n 0, 1) := by decide +kernel
theorem dX5_must_1 : decode cX5_must 1 = .ok (.aload_n 0, 1) := by decide +kernel
theorem dX5_must_2 : decode cX5_must 2 = .ok (.getfield 253, 3) := by decide +kernel
theorem dX5_must_5 : decode cX5_must 5 = .ok (.ifCond .ne 7, 3) := by decide +kernel
theorem dX5_must_8 : decode cX5_must 8 = .ok (.iload_n 1, 1) := by decide +kernel
theorem dX5_must_9 : decode cX5_must 9 = .ok (.ifCond .ne 7, 3) := by decide +kernel
theorem dX5_must_12 : decode cX5_must 12 = .ok (.iconst 1, 1) := by decide +kernel
theorem dX5_must_13 : decode cX5_must 13 = .ok (.goto 4, 3) := by decide +kernel
theorem dX5_must_16 : decode cX5_must 16 = .ok (.iconst 0, 1) := by decide +kernel
theorem dX5_must_17 : decode cX5_must 17 = .ok (.putfield 253, 3) := by decide +kernel
theorem dX5_must_20 : decode cX5_must 20 = .ok (.aload_n 0, 1) := by decide +kernel
theorem dX5_must_21 : decode cX5_must 21 = .ok (.getfield 253, 3) := by decide +kernel
theorem dX5_must_24 : decode cX5_must 24 = .ok (.ifCond .ne 7, 3) := by decide +kernel
theorem dX5_must_27 : decode cX5_must 27 = .ok (.aload_n 0, 1) := by decide +kernel
theorem dX5_must_28 : decode cX5_must 28 = .ok (.invokevirtual 257, 3) := by decide +kernel
theorem dX5_must_31 : decode cX5_must 31 = .ok (.return_, 1) := by decide +kernel
set_option maxHeartbeats 4000000 in
set_option maxRecDepth 100000 in
theorem g_X5_must {E : fh_E} {M : fh_M} (C : fh_Cx E M cX5_must 2 RX5 (none) rm_X5_must) (Hr : fh_Rt E M) (k1 : Nat) (a2 : Int32) (σ3 : fh_S) : fh_Go E M 2 fh_vU 0 [(0, .ref (fh_ad E k1)), (1, .int a2)] [] σ3 (f_X5_must k1 a2 σ3) := by
  have hok := fh_cok C
  refine go_ob ?_
  refine go_aload_n C 0 rfl rfl dX5_must_0 ?_
  refine go_aload_n C 0 rfl rfl dX5_must_1 ?_
  refine go_gi (ci := 5) (j := 12) C fh_in5 rfl (by decide) rfl q_758 dX5_must_2 (fun v4 => ?_)
  refine go_jn (fun (j10 : Int32 → fh_S → Option (Unit × fh_S)) => ∀ (x5 : Int32) (σ6 : fh_S), fh_Go E M 2 fh_vU 17 [(0, .ref (fh_ad E k1))] [.int x5, .ref (fh_ad E k1)] σ6 (j10 x5 σ6)) ?_ (fun j10 hj10 => ?_)
  · intro x5 σ6
    refine go_pz (ci := 5) (j := 12) C tyX5 tyX5_ok nmX5 fh_in5 rfl (by decide) rfl q_758 rfl rfl dX5_must_17 (fun σ7 => ?_)
    refine go_aload_n C 0 rfl rfl dX5_must_20 ?_
    refine go_gi (ci := 5) (j := 12) C fh_in5 rfl (by decide) rfl q_758 dX5_must_21 (fun v8 => ?_)
    refine go_if_ne (tgt := 31) C dX5_must_24 rfl (fun _ => ?_) (fun _ => ?_)
    · exact go_vret C Hr rfl dX5_must_31
    · refine go_aload_n C 0 rfl rfl dX5_must_27 ?_
      refine go_callVU C (st := []) [] (m_X5_next E _ hok k1 σ7) (fun _ h => fh_ob_ok h) rfl rfl ⟨q_1130, q_1132, qs_53, q_6, q_1133⟩ pd_X5_next rfl ⟨⟨Nat.le_of_ble_eq_true rfl, Nat.le_of_ble_eq_true rfl⟩, rfl, rfl⟩ (Nat.le_of_ble_eq_true rfl) dX5_must_28 (fun _ σ9 => ?_)
      exact go_vret C Hr rfl dX5_must_31
  refine go_jn (fun (j12 : fh_S → Option (Unit × fh_S)) => ∀ (σ11 : fh_S), fh_Go E M 2 fh_vU 12 [(0, .ref (fh_ad E k1))] [.ref (fh_ad E k1)] σ11 (j12 σ11)) ?_ (fun j12 hj12 => ?_)
  · intro σ11
    refine go_iconst C (1 : Int32) dX5_must_12 rfl ?_
    refine go_goto C 17 dX5_must_13 rfl ?_
    exact hj10 ((1 : Int32)) σ11
  refine go_if_ne (tgt := 12) C dX5_must_5 rfl (fun _ => ?_) (fun _ => ?_)
  · refine go_lv [0] (lv' := [(0, .ref (fh_ad E k1))]) rfl ?_
    exact hj12 σ3
  · refine go_iload_n C 1 rfl rfl dX5_must_8 ?_
    refine go_if_ne (tgt := 16) C dX5_must_9 rfl (fun _ => ?_) (fun _ => ?_)
    · refine go_iconst C (0 : Int32) dX5_must_16 rfl ?_
      refine go_lv [0] (lv' := [(0, .ref (fh_ad E k1))]) rfl ?_
      exact hj10 ((0 : Int32)) σ3
    · refine go_lv [0] (lv' := [(0, .ref (fh_ad E k1))]) rfl ?_
      exact hj12 σ3
theorem m_X5_must (E : fh_E) (l : Launch) (hok : fh_ok E) (k1 : Nat) (a2 : Int32) (σ3 : fh_S) : fh_Met E l yX5_must cX5_must 2 (none) rm_X5_must fh_vU [.ref (fh_ad E k1), .int a2] σ3 (f_X5_must k1 a2 σ3) := fh_met hok (by decide +kernel) (Nat.le_of_ble_eq_true rfl) (fun M _ C Hr => g_X5_must C Hr k1 a2 σ3)
def f_X5_number_J28 (k1 : Nat) (v5 : Int32) : Int32 → fh_S → Option (Int32 × fh_S) := fun x7 σ8 => fh_cb (f_X5_must k1 x7 σ8) fun _ σ9 => some (v5, σ9)
def f_X5_number_J27 (j10 : Int32 → fh_S → Option (Int32 × fh_S)) : fh_S → Option (Int32 × fh_S) := fun σ11 => j10 ((0 : Int32)) σ11
def f_X5_number (k1 : Nat) (a2 : Int32) (a3 : Int32) (σ4 : fh_S) : Option (Int32 × fh_S) := fh_ob 5 k1 ((fh_gi σ4 5 k1 11).bind fun v5 => (fh_gi σ4 5 k1 10).bind fun v6 => fh_jn (f_X5_number_J28 k1 v5) (fun j10 => fh_jn (f_X5_number_J27 j10) (fun j12 => if v6 = ((2 : Int32)) then fh_cb (f_X5_within v5 a2 a3 σ4) fun r14 σ13 => if r14 = 0 then j12 σ13 else j10 ((1 : Int32)) σ13 else j12 σ4)))
abbrev rm_X5_number : Room := { frames := 3, cells := 0, slots := 0, locals := 64 }
theorem pd_X5_number : yX5_number.cls ≠ "java/lang/invoke/MethodHandle" ∧ yX5_number.cls ≠ "java/lang/invoke/VarHandle" ∧ (parseMethodDescriptor yX5_number.desc).map (fun d => d.parameters.length) = some 2 := by decide +kernel
theorem dX5_number_0 : decode cX5_number 0 = .ok (.aload_n 0, 1) := by decide +kernel
theorem dX5_number_1 : decode cX5_number 1 = .ok (.getfield 240, 3) := by decide +kernel
theorem dX5_number_4 : decode cX5_number 4 = .ok (.istore_n 3, 1) := by decide +kernel
theorem dX5_number_5 : decode cX5_number 5 = .ok (.aload_n 0, 1) := by decide +kernel
theorem dX5_number_6 : decode cX5_number 6 = .ok (.aload_n 0, 1) := by decide +kernel
theorem dX5_number_7 : decode cX5_number 7 = .ok (.getfield 243, 3) := by decide +kernel
theorem dX5_number_10 : decode cX5_number 10 = .ok (.iconst 2, 1) := by decide +kernel
theorem dX5_number_11 : decode cX5_number 11 = .ok (.if_icmp .ne 16, 3) := by decide +kernel
theorem dX5_number_14 : decode cX5_number 14 = .ok (.iload_n 3, 1) := by decide +kernel
theorem dX5_number_15 : decode cX5_number 15 = .ok (.iload_n 1, 1) := by decide +kernel
theorem dX5_number_16 : decode cX5_number 16 = .ok (.iload_n 2, 1) := by decide +kernel
theorem dX5_number_17 : decode cX5_number 17 = .ok (.invokestatic 73, 3) := by decide +kernel
theorem dX5_number_20 : decode cX5_number 20 = .ok (.ifCond .eq 7, 3) := by decide +kernel
theorem dX5_number_23 : decode cX5_number 23 = .ok (.iconst 1, 1) := by decide +kernel
theorem dX5_number_24 : decode cX5_number 24 = .ok (.goto 4, 3) := by decide +kernel
theorem dX5_number_27 : decode cX5_number 27 = .ok (.iconst 0, 1) := by decide +kernel
theorem dX5_number_28 : decode cX5_number 28 = .ok (.invokevirtual 260, 3) := by decide +kernel
theorem dX5_number_31 : decode cX5_number 31 = .ok (.iload_n 3, 1) := by decide +kernel
theorem dX5_number_32 : decode cX5_number 32 = .ok (.ireturn, 1) := by decide +kernel
set_option maxHeartbeats 4000000 in
set_option maxRecDepth 100000 in
theorem g_X5_number {E : fh_E} {M : fh_M} (C : fh_Cx E M cX5_number 4 RX5 ((some FieldType.int)) rm_X5_number) (Hr : fh_Rt E M) (k1 : Nat) (a2 : Int32) (a3 : Int32) (σ4 : fh_S) : fh_Go E M 4 fh_vI 0 [(0, .ref (fh_ad E k1)), (1, .int a2), (2, .int a3)] [] σ4 (f_X5_number k1 a2 a3 σ4) := by
  have hok := fh_cok C
  refine go_ob ?_
  refine go_aload_n C 0 rfl rfl dX5_number_0 ?_
  refine go_gi (ci := 5) (j := 11) C fh_in5 rfl (by decide) rfl q_757 dX5_number_1 (fun v5 => ?_)
  refine go_istore_n C [(3, .int v5), (0, .ref (fh_ad E k1)), (1, .int a2), (2, .int a3)] rfl rfl (by decide) dX5_number_4 ?_
  refine go_aload_n C 1 rfl rfl dX5_number_5 ?_
  refine go_aload_n C 1 rfl rfl dX5_number_6 ?_
  refine go_gi (ci := 5) (j := 10) C fh_in5 rfl (by decide) rfl q_756 dX5_number_7 (fun v6 => ?_)
  refine go_iconst C (2 : Int32) dX5_number_10 rfl ?_
  refine go_jn (fun (j10 : Int32 → fh_S → Option (Int32 × fh_S)) => ∀ (x7 : Int32) (σ8 : fh_S), fh_Go E M 4 fh_vI 28 [(3, .int v5)] [.int x7, .ref (fh_ad E k1)] σ8 (j10 x7 σ8)) ?_ (fun j10 hj10 => ?_)
  · intro x7 σ8
    refine go_callVU C (st := []) [.int x7] (m_X5_must E _ hok k1 x7 σ8) (fun _ h => fh_ob_ok h) rfl rfl ⟨q_1152, q_1154, qs_58, q_6, q_1155⟩ pd_X5_must rfl ⟨⟨Nat.le_of_ble_eq_true rfl, Nat.le_of_ble_eq_true rfl⟩, rfl, rfl⟩ (Nat.le_of_ble_eq_true rfl) dX5_number_28 (fun _ σ9 => ?_)
    refine go_iload_n C 0 rfl rfl dX5_number_31 ?_
    exact go_iret C Hr rfl dX5_number_32
  refine go_jn (fun (j12 : fh_S → Option (Int32 × fh_S)) => ∀ (σ11 : fh_S), fh_Go E M 4 fh_vI 27 [(3, .int v5)] [.ref (fh_ad E k1)] σ11 (j12 σ11)) ?_ (fun j12 hj12 => ?_)
  · intro σ11
    refine go_iconst C (0 : Int32) dX5_number_27 rfl ?_
    exact hj10 ((0 : Int32)) σ11
  refine go_icmp_ne (tgt := 27) C dX5_number_11 rfl (fun _ => ?_) (fun _ => ?_)
  · refine go_lv [0] (lv' := [(3, .int v5)]) rfl ?_
    exact hj12 σ4
  · refine go_iload_n C 0 rfl rfl dX5_number_14 ?_
    refine go_iload_n C 2 rfl rfl dX5_number_15 ?_
    refine go_iload_n C 3 rfl rfl dX5_number_16 ?_
    refine go_callSI C (st := [.ref (fh_ad E k1)]) [.int v5, .int a2, .int a3] (m_X5_within E _ hok v5 a2 a3 σ4) rfl ⟨q_817, q_818, q_6, q_819⟩ pd_X5_within rfl ⟨⟨Nat.le_of_ble_eq_true rfl, Nat.le_of_ble_eq_true rfl⟩, rfl, rfl⟩ (Nat.le_of_ble_eq_true rfl) dX5_number_17 (fun r14 σ13 => ?_)
    refine go_if_eq (tgt := 27) C dX5_number_20 rfl (fun _ => ?_) (fun _ => ?_)
    · refine go_lv [0] (lv' := [(3, .int v5)]) rfl ?_
      exact hj12 σ13
    · refine go_iconst C (1 : Int32) dX5_number_23 rfl ?_
      refine go_goto C 28 dX5_number_24 rfl ?_
      refine go_lv [0] (lv' := [(3, .int v5)]) rfl ?_
      exact hj10 ((1 : Int32)) σ13
theorem m_X5_number (E : fh_E) (l : Launch) (hok : fh_ok E) (k1 : Nat) (a2 : Int32) (a3 : Int32) (σ4 : fh_S) : fh_Met E l yX5_number cX5_number 4 ((some FieldType.int)) rm_X5_number fh_vI [.ref (fh_ad E k1), .int a2, .int a3] σ4 (f_X5_number k1 a2 a3 σ4) := fh_met hok (by decide +kernel) (Nat.le_of_ble_eq_true rfl) (fun M _ C Hr => g_X5_number C Hr k1 a2 a3 σ4)
def f_X5_item (k1 : Nat) (a2 : Int32) (a3 : Int32) (a4 : Int32) (a5 : Int32) (a6 : Int32) (a7 : Int32) (σ8 : fh_S) : Option (Unit × fh_S) := fh_ob 5 k1 ((fh_gi σ8 5 k1 15).bind fun v9 => (fh_gr 5 k1 14).bind fun k10 => (fh_st σ8 k10 (((6 : Int32)) * v9) a2).bind fun σ11 => (fh_gr 5 k1 14).bind fun k12 => (fh_st σ11 k12 ((((6 : Int32)) * v9) + ((1 : Int32))) a3).bind fun σ13 => (fh_gr 5 k1 14).bind fun k14 => (fh_st σ13 k14 ((((6 : Int32)) * v9) + ((2 : Int32))) a4).bind fun σ15 => (fh_gr 5 k1 14).bind fun k16 => (fh_st σ15 k16 ((((6 : Int32)) * v9) + ((3 : Int32))) a5).bind fun σ17 => (fh_gr 5 k1 14).bind fun k18 => (fh_st σ17 k18 ((((6 : Int32)) * v9) + ((4 : Int32))) a6).bind fun σ19 => (fh_gr 5 k1 14).bind fun k20 => (fh_st σ19 k20 ((((6 : Int32)) * v9) + ((5 : Int32))) a7).bind fun σ21 => (fh_gi σ21 5 k1 15).bind fun v22 => (fh_pf σ21 5 k1 15 (v22 + ((1 : Int32)))).bind fun σ23 => some ((), σ23))
abbrev rm_X5_item : Room := { frames := 0, cells := 0, slots := 0, locals := 0 }
theorem pd_X5_item : yX5_item.cls ≠ "java/lang/invoke/MethodHandle" ∧ yX5_item.cls ≠ "java/lang/invoke/VarHandle" ∧ (parseMethodDescriptor yX5_item.desc).map (fun d => d.parameters.length) = some 6 := by decide +kernel
theorem dX5_item_0 : decode cX5_item 0 = .ok (.bipush 6, 2) := by decide +kernel
theorem dX5_item_2 : decode cX5_item 2 = .ok (.aload_n 0, 1) := by decide +kernel
theorem dX5_item_3 : decode cX5_item 3 = .ok (.getfield 264, 3) := by decide +kernel
theorem dX5_item_6 : decode cX5_item 6 = .ok (.imul, 1) := by decide +kernel
theorem dX5_item_7 : decode cX5_item 7 = .ok (.istore 7, 2) := by decide +kernel
theorem dX5_item_9 : decode cX5_item 9 = .ok (.aload_n 0, 1) := by decide +kernel
theorem dX5_item_10 : decode cX5_item 10 = .ok (.getfield 48, 3) := by decide +kernel
theorem dX5_item_13 : decode cX5_item 13 = .ok (.iload 7, 2) := by decide +kernel
theorem dX5_item_15 : decode cX5_item 15 = .ok (.iload_n 1, 1) := by decide +kernel
theorem dX5_item_16 : decode cX5_item 16 = .ok (.iastore, 1) := by decide +kernel
theorem dX5_item_17 : decode cX5_item 17 = .ok (.aload_n 0, 1) := by decide +kernel
theorem dX5_item_18 : decode cX5_item 18 = .ok (.getfield 48, 3) := by decide +kernel
theorem dX5_item_21 : decode cX5_item 21 = .ok (.iload 7, 2) := by decide +kernel
theorem dX5_item_23 : decode cX5_item 23 = .ok (.iconst 1, 1) := by decide +kernel
theorem dX5_item_24 : decode cX5_item 24 = .ok (.iadd, 1) := by decide +kernel
theorem dX5_item_25 : decode cX5_item 25 = .ok (.iload_n 2, 1) := by decide +kernel
theorem dX5_item_26 : decode cX5_item 26 = .ok (.iastore, 1) := by decide +kernel
theorem dX5_item_27 : decode cX5_item 27 = .ok (.aload_n 0, 1) := by decide +kernel
theorem dX5_item_28 : decode cX5_item 28 = .ok (.getfield 48, 3) := by decide +kernel
theorem dX5_item_31 : decode cX5_item 31 = .ok (.iload 7, 2) := by decide +kernel
theorem dX5_item_33 : decode cX5_item 33 = .ok (.iconst 2, 1) := by decide +kernel
theorem dX5_item_34 : decode cX5_item 34 = .ok (.iadd, 1) := by decide +kernel
theorem dX5_item_35 : decode cX5_item 35 = .ok (.iload_n 3, 1) := by decide +kernel
theorem dX5_item_36 : decode cX5_item 36 = .ok (.iastore, 1) := by decide +kernel
theorem dX5_item_37 : decode cX5_item 37 = .ok (.aload_n 0, 1) := by decide +kernel
theorem dX5_item_38 : decode cX5_item 38 = .ok (.getfield 48, 3) := by decide +kernel
theorem dX5_item_41 : decode cX5_item 41 = .ok (.iload 7, 2) := by decide +kernel
theorem dX5_item_43 : decode cX5_item 43 = .ok (.iconst 3, 1) := by decide +kernel
theorem dX5_item_44 : decode cX5_item 44 = .ok (.iadd, 1) := by decide +kernel
theorem dX5_item_45 : decode cX5_item 45 = .ok (.iload 4, 2) := by decide +kernel
theorem dX5_item_47 : decode cX5_item 47 = .ok (.iastore, 1) := by decide +kernel
theorem dX5_item_48 : decode cX5_item 48 = .ok (.aload_n 0, 1) := by decide +kernel
theorem dX5_item_49 : decode cX5_item 49 = .ok (.getfield 48, 3) := by decide +kernel
theorem dX5_item_52 : decode cX5_item 52 = .ok (.iload 7, 2) := by decide +kernel
theorem dX5_item_54 : decode cX5_item 54 = .ok (.iconst 4, 1) := by decide +kernel
theorem dX5_item_55 : decode cX5_item 55 = .ok (.iadd, 1) := by decide +kernel
theorem dX5_item_56 : decode cX5_item 56 = .ok (.iload 5, 2) := by decide +kernel
theorem dX5_item_58 : decode cX5_item 58 = .ok (.iastore, 1) := by decide +kernel
theorem dX5_item_59 : decode cX5_item 59 = .ok (.aload_n 0, 1) := by decide +kernel
theorem dX5_item_60 : decode cX5_item 60 = .ok (.getfield 48, 3) := by decide +kernel
theorem dX5_item_63 : decode cX5_item 63 = .ok (.iload 7, 2) := by decide +kernel
theorem dX5_item_65 : decode cX5_item 65 = .ok (.iconst 5, 1) := by decide +kernel
theorem dX5_item_66 : decode cX5_item 66 = .ok (.iadd, 1) := by decide +kernel
theorem dX5_item_67 : decode cX5_item 67 = .ok (.iload 6, 2) := by decide +kernel
theorem dX5_item_69 : decode cX5_item 69 = .ok (.iastore, 1) := by decide +kernel
theorem dX5_item_70 : decode cX5_item 70 = .ok (.aload_n 0, 1) := by decide +kernel
theorem dX5_item_71 : decode cX5_item 71 = .ok (.dup, 1) := by decide +kernel
theorem dX5_item_72 : decode cX5_item 72 = .ok (.getfield 264, 3) := by decide +kernel
theorem dX5_item_75 : decode cX5_item 75 = .ok (.iconst 1, 1) := by decide +kernel
theorem dX5_item_76 : decode cX5_item 76 = .ok (.iadd, 1) := by decide +kernel
theorem dX5_item_77 : decode cX5_item 77 = .ok (.putfield 264, 3) := by decide +kernel
theorem dX5_item_80 : decode cX5_item 80 = .ok (.return_, 1) := by decide +kernel
set_option maxHeartbeats 4000000 in
set_option maxRecDepth 100000 in
theorem g_X5_item {E : fh_E} {M : fh_M} (C : fh_Cx E M cX5_item 8 RX5 (none) rm_X5_item) (Hr : fh_Rt E M) (k1 : Nat) (a2 : Int32) (a3 : Int32) (a4 : Int32) (a5 : Int32) (a6 : Int32) (a7 : Int32) (σ8 : fh_S) : fh_Go E M 8 fh_vU 0 [(0, .ref (fh_ad E k1)), (1, .int a2), (2, .int a3), (3, .int a4), (4, .int a5), (5, .int a6), (6, .int a7)] [] σ8 (f_X5_item k1 a2 a3 a4 a5 a6 a7 σ8) := by
  have hok := fh_cok C
  refine go_ob ?_
  refine go_bipush C (6 : Int32) dX5_item_0 rfl ?_
  refine go_aload_n C 0 rfl rfl dX5_item_2 ?_
  refine go_gi (ci := 5) (j := 15) C fh_in5 rfl (by decide) rfl q_761 dX5_item_3 (fun v9 => ?_)
  refine go_imul C dX5_item_6 ?_
  refine go_istore C [(7, .int (((6 : Int32)) * v9)), (0, .ref (fh_ad E k1)), (1, .int a2), (2, .int a3), (3, .int a4), (4, .int a5), (5, .int a6), (6, .int a7)] rfl (by decide) dX5_item_7 ?_
  refine go_aload_n C 1 rfl rfl dX5_item_9 ?_
  refine go_gr (ci := 5) (j := 14) C fh_in5 rfl (by decide) rfl q_760 dX5_item_10 (fun k10 => ?_)
  refine go_iload C 0 rfl dX5_item_13 ?_
  refine go_iload_n C 2 rfl rfl dX5_item_15 ?_
  refine go_iast C dX5_item_16 (fun σ11 => ?_)
  refine go_aload_n C 1 rfl rfl dX5_item_17 ?_
  refine go_gr (ci := 5) (j := 14) C fh_in5 rfl (by decide) rfl q_760 dX5_item_18 (fun k12 => ?_)
  refine go_iload C 0 rfl dX5_item_21 ?_
  refine go_iconst C (1 : Int32) dX5_item_23 rfl ?_
  refine go_iadd C dX5_item_24 ?_
  refine go_iload_n C 3 rfl rfl dX5_item_25 ?_
  refine go_iast C dX5_item_26 (fun σ13 => ?_)
  refine go_aload_n C 1 rfl rfl dX5_item_27 ?_
  refine go_gr (ci := 5) (j := 14) C fh_in5 rfl (by decide) rfl q_760 dX5_item_28 (fun k14 => ?_)
  refine go_iload C 0 rfl dX5_item_31 ?_
  refine go_iconst C (2 : Int32) dX5_item_33 rfl ?_
  refine go_iadd C dX5_item_34 ?_
  refine go_iload_n C 4 rfl rfl dX5_item_35 ?_
  refine go_iast C dX5_item_36 (fun σ15 => ?_)
  refine go_aload_n C 1 rfl rfl dX5_item_37 ?_
  refine go_gr (ci := 5) (j := 14) C fh_in5 rfl (by decide) rfl q_760 dX5_item_38 (fun k16 => ?_)
  refine go_iload C 0 rfl dX5_item_41 ?_
  refine go_iconst C (3 : Int32) dX5_item_43 rfl ?_
  refine go_iadd C dX5_item_44 ?_
  refine go_iload C 5 rfl dX5_item_45 ?_
  refine go_iast C dX5_item_47 (fun σ17 => ?_)
  refine go_aload_n C 1 rfl rfl dX5_item_48 ?_
  refine go_gr (ci := 5) (j := 14) C fh_in5 rfl (by decide) rfl q_760 dX5_item_49 (fun k18 => ?_)
  refine go_iload C 0 rfl dX5_item_52 ?_
  refine go_iconst C (4 : Int32) dX5_item_54 rfl ?_
  refine go_iadd C dX5_item_55 ?_
  refine go_iload C 6 rfl dX5_item_56 ?_
  refine go_iast C dX5_item_58 (fun σ19 => ?_)
  refine go_aload_n C 1 rfl rfl dX5_item_59 ?_
  refine go_gr (ci := 5) (j := 14) C fh_in5 rfl (by decide) rfl q_760 dX5_item_60 (fun k20 => ?_)
  refine go_iload C 0 rfl dX5_item_63 ?_
  refine go_iconst C (5 : Int32) dX5_item_65 rfl ?_
  refine go_iadd C dX5_item_66 ?_
  refine go_iload C 7 rfl dX5_item_67 ?_
  refine go_iast C dX5_item_69 (fun σ21 => ?_)
  refine go_aload_n C 1 rfl rfl dX5_item_70 ?_
  refine go_dup C rfl dX5_item_71 ?_
  refine go_gi (ci := 5) (j := 15) C fh_in5 rfl (by decide) rfl q_761 dX5_item_72 (fun v22 => ?_)
  refine go_iconst C (1 : Int32) dX5_item_75 rfl ?_
  refine go_iadd C dX5_item_76 ?_
  refine go_pf (ci := 5) (j := 15) C tyX5 tyX5_ok nmX5 fh_in5 rfl (by decide) rfl q_761 rfl rfl dX5_item_77 (fun σ23 => ?_)
  exact go_vret C Hr rfl dX5_item_80
theorem m_X5_item (E : fh_E) (l : Launch) (hok : fh_ok E) (k1 : Nat) (a2 : Int32) (a3 : Int32) (a4 : Int32) (a5 : Int32) (a6 : Int32) (a7 : Int32) (σ8 : fh_S) : fh_Met E l yX5_item cX5_item 8 (none) rm_X5_item fh_vU [.ref (fh_ad E k1), .int a2, .int a3, .int a4, .int a5, .int a6, .int a7] σ8 (f_X5_item k1 a2 a3 a4 a5 a6 a7 σ8) := fh_met hok (by decide +kernel) (Nat.le_of_ble_eq_true rfl) (fun M _ C Hr => g_X5_item C Hr k1 a2 a3 a4 a5 a6 a7 σ8)
def f_X5_kindTold_J31 (r6 : Int32 → Int32 → fh_S → Option (Int32 × fh_S)) (x4 : Int32) : Int32 → fh_S → Option (Int32 × fh_S) := fun x13 σ14 => r6 x13 (x4 + 1) σ14
def f_X5_kindTold_B4 (k1 : Nat) (r6 : Int32 → Int32 → fh_S → Option (Int32 × fh_S)) : Int32 → Int32 → fh_S → Option (Int32 × fh_S) := fun x3 x4 σ5 => (fh_gr 5 k1 13).bind fun k7 => (fh_ln k7).bind fun v8 => if v8 ≤ x4 then some (x3, σ5) else (fh_gr 5 k1 13).bind fun k9 => (fh_ls k9 x4).bind fun k10 => fh_cb (f_X5_isWord k1 k10 σ5) fun r12 σ11 => fh_jn (f_X5_kindTold_J31 r6 x4) (fun j15 => if r12 = 0 then j15 x3 σ11 else j15 x4 σ11)
def f_X5_kindTold (k1 : Nat) (σ2 : fh_S) : Option (Int32 × fh_S) := fh_ob 5 k1 (fh_fx (ρ := Int32 → Int32 → fh_S → Option (Int32 × fh_S)) (fun _ _ _ => none) (f_X5_kindTold_B4 k1) fh_fu ((-1 : Int32)) ((0 : Int32)) σ2)
abbrev rm_X5_kindTold : Room := { frames := 5, cells := 0, slots := 0, locals := 108 }
theorem pd_X5_kindTold : yX5_kindTold.cls ≠ "java/lang/invoke/MethodHandle" ∧ yX5_kindTold.cls ≠ "java/lang/invoke/VarHandle" ∧ (parseMethodDescriptor yX5_kindTold.desc).map (fun d => d.parameters.length) = some 0 := by decide +kernel
theorem dX5_kindTold_0 : decode cX5_kindTold 0 = .ok (.iconst (-1), 1) := by decide +kernel
theorem dX5_kindTold_1 : decode cX5_kindTold 1 = .ok (.istore_n 1, 1) := by decide +kernel
theorem dX5_kindTold_2 : decode cX5_kindTold 2 = .ok (.iconst 0, 1) := by decide +kernel
theorem dX5_kindTold_3 : decode cX5_kindTold 3 = .ok (.istore_n 2, 1) := by decide +kernel
theorem dX5_kindTold_4 : decode cX5_kindTold 4 = .ok (.iload_n 2, 1) := by decide +kernel
theorem dX5_kindTold_5 : decode cX5_kindTold 5 = .ok (.aload_n 0, 1) := by decide +kernel
theorem dX5_kindTold_6 : decode cX5_kindTold 6 = .ok (.getfield 44, 3) := by decide +kernel
theorem dX5_kindTold_9 : decode cX5_kindTold 9 = .ok (.arraylength, 1) := by decide +kernel
theorem dX5_kindTold_10 : decode cX5_kindTold 10 = .ok (.if_icmp .ge 28, 3) := by decide +kernel
theorem dX5_kindTold_13 : decode cX5_kindTold 13 = .ok (.aload_n 0, 1) := by decide +kernel
theorem dX5_kindTold_14 : decode cX5_kindTold 14 = .ok (.aload_n 0, 1) := by decide +kernel
theorem dX5_kindTold_15 : decode cX5_kindTold 15 = .ok (.getfield 44, 3) := by decide +kernel
theorem dX5_kindTold_18 : decode cX5_kindTold 18 = .ok (.iload_n 2, 1) := by decide +kernel
theorem dX5_kindTold_19 : decode cX5_kindTold 19 = .ok (.aaload, 1) := by decide +kernel
theorem dX5_kindTold_20 : decode cX5_kindTold 20 = .ok (.invokevirtual 267, 3) := by decide +kernel
theorem dX5_kindTold_23 : decode cX5_kindTold 23 = .ok (.ifCond .eq 7, 3) := by decide +kernel
theorem dX5_kindTold_26 : decode cX5_kindTold 26 = .ok (.iload_n 2, 1) := by decide +kernel
theorem dX5_kindTold_27 : decode cX5_kindTold 27 = .ok (.goto 4, 3) := by decide +kernel
theorem dX5_kindTold_30 : decode cX5_kindTold 30 = .ok (.iload_n 1, 1) := by decide +kernel
theorem dX5_kindTold_31 : decode cX5_kindTold 31 = .ok (.istore_n 1, 1) := by decide +kernel
theorem dX5_kindTold_32 : decode cX5_kindTold 32 = .ok (.iinc 2 1, 3) := by decide +kernel
theorem dX5_kindTold_35 : decode cX5_kindTold 35 = .ok (.goto (-31), 3) := by decide +kernel
theorem dX5_kindTold_38 : decode cX5_kindTold 38 = .ok (.iload_n 1, 1) := by decide +kernel
theorem dX5_kindTold_39 : decode cX5_kindTold 39 = .ok (.ireturn, 1) := by decide +kernel
set_option maxHeartbeats 4000000 in
set_option maxRecDepth 100000 in
theorem g_X5_kindTold {E : fh_E} {M : fh_M} (C : fh_Cx E M cX5_kindTold 3 RX5 ((some FieldType.int)) rm_X5_kindTold) (Hr : fh_Rt E M) (k1 : Nat) (σ2 : fh_S) : fh_Go E M 3 fh_vI 0 [(0, .ref (fh_ad E k1))] [] σ2 (f_X5_kindTold k1 σ2) := by
  have hok := fh_cok C
  refine go_ob ?_
  refine go_iconst C (-1 : Int32) dX5_kindTold_0 rfl ?_
  refine go_istore_n C [(1, .int ((-1 : Int32))), (0, .ref (fh_ad E k1))] rfl rfl (by decide) dX5_kindTold_1 ?_
  refine go_iconst C (0 : Int32) dX5_kindTold_2 rfl ?_
  refine go_istore_n C [(2, .int ((0 : Int32))), (1, .int ((-1 : Int32))), (0, .ref (fh_ad E k1))] rfl rfl (by decide) dX5_kindTold_3 ?_
  refine go_lv [2, 1, 0] (lv' := [(0, .ref (fh_ad E k1)), (1, .int ((-1 : Int32))), (2, .int ((0 : Int32)))]) rfl ?_
  refine go_fx (fun (r6 : Int32 → Int32 → fh_S → Option (Int32 × fh_S)) => ∀ (x3 : Int32) (x4 : Int32) (σ5 : fh_S), fh_Go E M 3 fh_vI 4 [(0, .ref (fh_ad E k1)), (1, .int x3), (2, .int x4)] [] σ5 (r6 x3 x4 σ5)) ?_ ?_ fh_fu ((-1 : Int32)) ((0 : Int32)) σ2
  · intro x3 x4 σ5
    exact go_none
  · intro r6 hr6 x3 x4 σ5
    refine go_iload_n C 2 rfl rfl dX5_kindTold_4 ?_
    refine go_aload_n C 0 rfl rfl dX5_kindTold_5 ?_
    refine go_gr (ci := 5) (j := 13) C fh_in5 rfl (by decide) rfl q_759 dX5_kindTold_6 (fun k7 => ?_)
    refine go_alen C dX5_kindTold_9 (fun v8 => ?_)
    refine go_icmp_ge (tgt := 38) C dX5_kindTold_10 rfl (fun _ => ?_) (fun _ => ?_)
    · refine go_iload_n C 1 rfl rfl dX5_kindTold_38 ?_
      exact go_iret C Hr rfl dX5_kindTold_39
    · refine go_aload_n C 0 rfl rfl dX5_kindTold_13 ?_
      refine go_aload_n C 0 rfl rfl dX5_kindTold_14 ?_
      refine go_gr (ci := 5) (j := 13) C fh_in5 rfl (by decide) rfl q_759 dX5_kindTold_15 (fun k9 => ?_)
      refine go_iload_n C 2 rfl rfl dX5_kindTold_18 ?_
      refine go_aals C dX5_kindTold_19 (fun k10 => ?_)
      refine go_callVI C (st := []) [.ref (fh_aK E k10)] (m_X5_isWord E _ hok k1 k10 σ5) (fun _ h => fh_ob_ok h) rfl rfl ⟨q_1146, q_1148, qs_57, q_6, q_1149⟩ pd_X5_isWord rfl ⟨⟨Nat.le_of_ble_eq_true rfl, Nat.le_of_ble_eq_true rfl⟩, rfl, rfl⟩ (Nat.le_of_ble_eq_true rfl) dX5_kindTold_20 (fun r12 σ11 => ?_)
      refine go_jn (fun (j15 : Int32 → fh_S → Option (Int32 × fh_S)) => ∀ (x13 : Int32) (σ14 : fh_S), fh_Go E M 3 fh_vI 31 [(0, .ref (fh_ad E k1)), (2, .int x4)] [.int x13] σ14 (j15 x13 σ14)) ?_ (fun j15 hj15 => ?_)
      · intro x13 σ14
        refine go_istore_n C [(1, .int x13), (0, .ref (fh_ad E k1)), (2, .int x4)] rfl rfl (by decide) dX5_kindTold_31 ?_
        refine go_iinc C (x4 + 1) 2 [(2, .int (x4 + 1)), (1, .int x13), (0, .ref (fh_ad E k1))] rfl rfl rfl (by decide) dX5_kindTold_32 ?_
        refine go_goto C 4 dX5_kindTold_35 rfl ?_
        refine go_lv [2, 1, 0] (lv' := [(0, .ref (fh_ad E k1)), (1, .int x13), (2, .int (x4 + 1))]) rfl ?_
        exact hr6 x13 (x4 + 1) σ14
      refine go_if_eq (tgt := 30) C dX5_kindTold_23 rfl (fun _ => ?_) (fun _ => ?_)
      · refine go_iload_n C 1 rfl rfl dX5_kindTold_30 ?_
        refine go_lv [0, 2] (lv' := [(0, .ref (fh_ad E k1)), (2, .int x4)]) rfl ?_
        exact hj15 x3 σ11
      · refine go_iload_n C 2 rfl rfl dX5_kindTold_26 ?_
        refine go_goto C 31 dX5_kindTold_27 rfl ?_
        refine go_lv [0, 2] (lv' := [(0, .ref (fh_ad E k1)), (2, .int x4)]) rfl ?_
        exact hj15 x4 σ11
theorem m_X5_kindTold (E : fh_E) (l : Launch) (hok : fh_ok E) (k1 : Nat) (σ2 : fh_S) : fh_Met E l yX5_kindTold cX5_kindTold 3 ((some FieldType.int)) rm_X5_kindTold fh_vI [.ref (fh_ad E k1)] σ2 (f_X5_kindTold k1 σ2) := fh_met hok (by decide +kernel) (Nat.le_of_ble_eq_true rfl) (fun M _ C Hr => g_X5_kindTold C Hr k1 σ2)
def f_X5_isNext_J20 (k1 : Nat) : Int32 → fh_S → Option (Int32 × fh_S) := fun x5 σ6 => if x5 = 0 then fh_rz x5 σ6 else fh_cb (f_X5_must k1 ((1 : Int32)) σ6) fun _ σ7 => fh_rz x5 σ7
def f_X5_isNext_J19 (j8 : Int32 → fh_S → Option (Int32 × fh_S)) : fh_S → Option (Int32 × fh_S) := fun σ9 => j8 ((0 : Int32)) σ9
def f_X5_isNext (k1 : Nat) (i2 : Nat) (σ3 : fh_S) : Option (Int32 × fh_S) := fh_ob 5 k1 ((fh_gi σ3 5 k1 12).bind fun v4 => fh_jn (f_X5_isNext_J20 k1) (fun j8 => fh_jn (f_X5_isNext_J19 j8) (fun j10 => if v4 = 0 then fh_cb (f_X5_isWord k1 i2 σ3) fun r12 σ11 => if r12 = 0 then j10 σ11 else j8 ((1 : Int32)) σ11 else j10 σ3)))
abbrev rm_X5_isNext : Room := { frames := 5, cells := 0, slots := 0, locals := 108 }
theorem pd_X5_isNext : yX5_isNext.cls ≠ "java/lang/invoke/MethodHandle" ∧ yX5_isNext.cls ≠ "java/lang/invoke/VarHandle" ∧ (parseMethodDescriptor yX5_isNext.desc).map (fun d => d.parameters.length) = some 1 := by decide +kernel
theorem dX5_isNext_0 : decode cX5_isNext 0 = .ok (.aload_n 0, 1) := by decide +kernel
theorem dX5_isNext_1 : decode cX5_isNext 1 = .ok (.getfield 253, 3) := by decide +kernel
theorem dX5_isNext_4 : decode cX5_isNext 4 = .ok (.ifCond .ne 15, 3) := by decide +kernel
theorem dX5_isNext_7 : decode cX5_isNext 7 = .ok (.aload_n 0, 1) := by decide +kernel
theorem dX5_isNext_8 : decode cX5_isNext 8 = .ok (.aload_n 1, 1) := by decide +kernel
theorem dX5_isNext_9 : decode cX5_isNext 9 = .ok (.invokevirtual 267, 3) := by decide +kernel
theorem dX5_isNext_12 : decode cX5_isNext 12 = .ok (.ifCond .eq 7, 3) := by decide +kernel
theorem dX5_isNext_15 : decode cX5_isNext 15 = .ok (.iconst 1, 1) := by decide +kernel
theorem dX5_isNext_16 : decode cX5_isNext 16 = .ok (.goto 4, 3) := by decide +kernel
theorem dX5_isNext_19 : decode cX5_isNext 19 = .ok (.iconst 0, 1) := by decide +kernel
theorem dX5_isNext_20 : decode cX5_isNext 20 = .ok (.istore_n 2, 1) := by decide +kernel
theorem dX5_isNext_21 : decode cX5_isNext 21 = .ok (.iload_n 2, 1) := by decide +kernel
theorem dX5_isNext_22 : decode cX5_isNext 22 = .ok (.ifCond .eq 8, 3) := by decide +kernel
theorem dX5_isNext_25 : decode cX5_isNext 25 = .ok (.aload_n 0, 1) := by decide +kernel
theorem dX5_isNext_26 : decode cX5_isNext 26 = .ok (.iconst 1, 1) := by decide +kernel
theorem dX5_isNext_27 : decode cX5_isNext 27 = .ok (.invokevirtual 260, 3) := by decide +kernel
theorem dX5_isNext_30 : decode cX5_isNext 30 = .ok (.iload_n 2, 1) := by decide +kernel
theorem dX5_isNext_31 : decode cX5_isNext 31 = .ok (.ireturn, 1) := by decide +kernel
set_option maxHeartbeats 4000000 in
set_option maxRecDepth 100000 in
theorem g_X5_isNext {E : fh_E} {M : fh_M} (C : fh_Cx E M cX5_isNext 3 RX5 ((some FieldType.boolean)) rm_X5_isNext) (Hr : fh_Rt E M) (k1 : Nat) (i2 : Nat) (σ3 : fh_S) : fh_Go E M 3 fh_vI 0 [(0, .ref (fh_ad E k1)), (1, .ref (fh_aK E i2))] [] σ3 (f_X5_isNext k1 i2 σ3) := by
  have hok := fh_cok C
  refine go_ob ?_
  refine go_aload_n C 0 rfl rfl dX5_isNext_0 ?_
  refine go_gi (ci := 5) (j := 12) C fh_in5 rfl (by decide) rfl q_758 dX5_isNext_1 (fun v4 => ?_)
  refine go_jn (fun (j8 : Int32 → fh_S → Option (Int32 × fh_S)) => ∀ (x5 : Int32) (σ6 : fh_S), fh_Go E M 3 fh_vI 20 [(0, .ref (fh_ad E k1))] [.int x5] σ6 (j8 x5 σ6)) ?_ (fun j8 hj8 => ?_)
  · intro x5 σ6
    refine go_istore_n C [(2, .int x5), (0, .ref (fh_ad E k1))] rfl rfl (by decide) dX5_isNext_20 ?_
    refine go_iload_n C 0 rfl rfl dX5_isNext_21 ?_
    refine go_if_eq (tgt := 30) C dX5_isNext_22 rfl (fun _ => ?_) (fun _ => ?_)
    · refine go_iload_n C 0 rfl rfl dX5_isNext_30 ?_
      exact go_zret C Hr dX5_isNext_31
    · refine go_aload_n C 1 rfl rfl dX5_isNext_25 ?_
      refine go_iconst C (1 : Int32) dX5_isNext_26 rfl ?_
      refine go_callVU C (st := []) [.int ((1 : Int32))] (m_X5_must E _ hok k1 ((1 : Int32)) σ6) (fun _ h => fh_ob_ok h) rfl rfl ⟨q_1152, q_1154, qs_58, q_6, q_1155⟩ pd_X5_must rfl ⟨⟨Nat.le_of_ble_eq_true rfl, Nat.le_of_ble_eq_true rfl⟩, rfl, rfl⟩ (Nat.le_of_ble_eq_true rfl) dX5_isNext_27 (fun _ σ7 => ?_)
      refine go_iload_n C 0 rfl rfl dX5_isNext_30 ?_
      exact go_zret C Hr dX5_isNext_31
  refine go_jn (fun (j10 : fh_S → Option (Int32 × fh_S)) => ∀ (σ9 : fh_S), fh_Go E M 3 fh_vI 19 [(0, .ref (fh_ad E k1))] [] σ9 (j10 σ9)) ?_ (fun j10 hj10 => ?_)
  · intro σ9
    refine go_iconst C (0 : Int32) dX5_isNext_19 rfl ?_
    exact hj8 ((0 : Int32)) σ9
  refine go_if_ne (tgt := 19) C dX5_isNext_4 rfl (fun _ => ?_) (fun _ => ?_)
  · refine go_lv [0] (lv' := [(0, .ref (fh_ad E k1))]) rfl ?_
    exact hj10 σ3
  · refine go_aload_n C 0 rfl rfl dX5_isNext_7 ?_
    refine go_aload_n C 1 rfl rfl dX5_isNext_8 ?_
    refine go_callVI C (st := []) [.ref (fh_aK E i2)] (m_X5_isWord E _ hok k1 i2 σ3) (fun _ h => fh_ob_ok h) rfl rfl ⟨q_1146, q_1148, qs_57, q_6, q_1149⟩ pd_X5_isWord rfl ⟨⟨Nat.le_of_ble_eq_true rfl, Nat.le_of_ble_eq_true rfl⟩, rfl, rfl⟩ (Nat.le_of_ble_eq_true rfl) dX5_isNext_9 (fun r12 σ11 => ?_)
    refine go_if_eq (tgt := 19) C dX5_isNext_12 rfl (fun _ => ?_) (fun _ => ?_)
    · refine go_lv [0] (lv' := [(0, .ref (fh_ad E k1))]) rfl ?_
      exact hj10 σ11
    · refine go_iconst C (1 : Int32) dX5_isNext_15 rfl ?_
      refine go_goto C 20 dX5_isNext_16 rfl ?_
      refine go_lv [0] (lv' := [(0, .ref (fh_ad E k1))]) rfl ?_
      exact hj8 ((1 : Int32)) σ11
theorem m_X5_isNext (E : fh_E) (l : Launch) (hok : fh_ok E) (k1 : Nat) (i2 : Nat) (σ3 : fh_S) : fh_Met E l yX5_isNext cX5_isNext 3 ((some FieldType.boolean)) rm_X5_isNext fh_vI [.ref (fh_ad E k1), .ref (fh_aK E i2)] σ3 (f_X5_isNext k1 i2 σ3) := fh_met hok (by decide +kernel) (Nat.le_of_ble_eq_true rfl) (fun M _ C Hr => g_X5_isNext C Hr k1 i2 σ3)
def f_X5_goesTold_J44 (k1 : Nat) (x4 : Int32) : fh_S → Option (Int32 × fh_S) := fun σ6 => fh_cb (f_X5_number k1 ((0 : Int32)) ((99 : Int32)) σ6) fun r8 σ7 => if x4 = 0 then some (r8, σ7) else some (-r8, σ7)
def f_X5_goesTold_J34 (k1 : Nat) : Int32 → fh_S → Option (Int32 × fh_S) := fun x4 σ5 => fh_jn (f_X5_goesTold_J44 k1 x4) (fun j9 => if x4 = 0 then j9 σ5 else fh_cb (f_X5_must k1 ((1 : Int32)) σ5) fun _ σ10 => j9 σ10)
def f_X5_goesTold_J33 (j11 : Int32 → fh_S → Option (Int32 × fh_S)) : fh_S → Option (Int32 × fh_S) := fun σ12 => j11 ((0 : Int32)) σ12
def f_X5_goesTold (k1 : Nat) (σ2 : fh_S) : Option (Int32 × fh_S) := fh_ob 5 k1 ((fh_gi σ2 5 k1 12).bind fun v3 => fh_jn (f_X5_goesTold_J34 k1) (fun j11 => fh_jn (f_X5_goesTold_J33 j11) (fun j13 => if v3 = 0 then (fh_gi σ2 5 k1 10).bind fun v14 => if v14 = ((3 : Int32)) then (fh_gr 5 k1 6).bind fun k15 => (fh_gi σ2 5 k1 8).bind fun v16 => (fh_ld σ2 k15 v16).bind fun v17 => if v17 = ((45 : Int32)) then j11 ((1 : Int32)) σ2 else j13 σ2 else j13 σ2 else j13 σ2)))
abbrev rm_X5_goesTold : Room := { frames := 4, cells := 0, slots := 0, locals := 87 }
theorem pd_X5_goesTold : yX5_goesTold.cls ≠ "java/lang/invoke/MethodHandle" ∧ yX5_goesTold.cls ≠ "java/lang/invoke/VarHandle" ∧ (parseMethodDescriptor yX5_goesTold.desc).map (fun d => d.parameters.length) = some 0 := by decide +kernel
theorem dX5_goesTold_0 : decode cX5_goesTold 0 = .ok (.aload_n 0, 1) := by decide +kernel
theorem dX5_goesTold_1 : decode cX5_goesTold 1 = .ok (.getfield 253, 3) := by decide +kernel
theorem dX5_goesTold_4 : decode cX5_goesTold 4 = .ok (.ifCond .ne 29, 3) := by decide +kernel
theorem dX5_goesTold_7 : decode cX5_goesTold 7 = .ok (.aload_n 0, 1) := by decide +kernel
theorem dX5_goesTold_8 : decode cX5_goesTold 8 = .ok (.getfield 243, 3) := by decide +kernel
theorem dX5_goesTold_11 : decode cX5_goesTold 11 = .ok (.iconst 3, 1) := by decide +kernel
theorem dX5_goesTold_12 : decode cX5_goesTold 12 = .ok (.if_icmp .ne 21, 3) := by decide +kernel
theorem dX5_goesTold_15 : decode cX5_goesTold 15 = .ok (.aload_n 0, 1) := by decide +kernel
theorem dX5_goesTold_16 : decode cX5_goesTold 16 = .ok (.getfield 25, 3) := by decide +kernel
theorem dX5_goesTold_19 : decode cX5_goesTold 19 = .ok (.aload_n 0, 1) := by decide +kernel
theorem dX5_goesTold_20 : decode cX5_goesTold 20 = .ok (.getfield 234, 3) := by decide +kernel
theorem dX5_goesTold_23 : decode cX5_goesTold 23 = .ok (.iaload, 1) := by decide +kernel
theorem dX5_goesTold_24 : decode cX5_goesTold 24 = .ok (.bipush 45, 2) := by decide +kernel
theorem dX5_goesTold_26 : decode cX5_goesTold 26 = .ok (.if_icmp .ne 7, 3) := by decide +kernel
theorem dX5_goesTold_29 : decode cX5_goesTold 29 = .ok (.iconst 1, 1) := by decide +kernel
theorem dX5_goesTold_30 : decode cX5_goesTold 30 = .ok (.goto 4, 3) := by decide +kernel
theorem dX5_goesTold_33 : decode cX5_goesTold 33 = .ok (.iconst 0, 1) := by decide +kernel
theorem dX5_goesTold_34 : decode cX5_goesTold 34 = .ok (.istore_n 1, 1) := by decide +kernel
theorem dX5_goesTold_35 : decode cX5_goesTold 35 = .ok (.iload_n 1, 1) := by decide +kernel
theorem dX5_goesTold_36 : decode cX5_goesTold 36 = .ok (.ifCond .eq 8, 3) := by decide +kernel
theorem dX5_goesTold_39 : decode cX5_goesTold 39 = .ok (.aload_n 0, 1) := by decide +kernel
theorem dX5_goesTold_40 : decode cX5_goesTold 40 = .ok (.iconst 1, 1) := by decide +kernel
theorem dX5_goesTold_41 : decode cX5_goesTold 41 = .ok (.invokevirtual 260, 3) := by decide +kernel
theorem dX5_goesTold_44 : decode cX5_goesTold 44 = .ok (.aload_n 0, 1) := by decide +kernel
theorem dX5_goesTold_45 : decode cX5_goesTold 45 = .ok (.iconst 0, 1) := by decide +kernel
theorem dX5_goesTold_46 : decode cX5_goesTold 46 = .ok (.bipush 99, 2) := by decide +kernel
theorem dX5_goesTold_48 : decode cX5_goesTold 48 = .ok (.invokevirtual 271, 3) := by decide +kernel
theorem dX5_goesTold_51 : decode cX5_goesTold 51 = .ok (.istore_n 2, 1) := by decide +kernel
theorem dX5_goesTold_52 : decode cX5_goesTold 52 = .ok (.iload_n 1, 1) := by decide +kernel
theorem dX5_goesTold_53 : decode cX5_goesTold 53 = .ok (.ifCond .eq 8, 3) := by decide +kernel
theorem dX5_goesTold_56 : decode cX5_goesTold 56 = .ok (.iload_n 2, 1) := by decide +kernel
theorem dX5_goesTold_57 : decode cX5_goesTold 57 = .ok (.ineg, 1) := by decide +kernel
theorem dX5_goesTold_58 : decode cX5_goesTold 58 = .ok (.goto 4, 3) := by decide +kernel
theorem dX5_goesTold_61 : decode cX5_goesTold 61 = .ok (.iload_n 2, 1) := by decide +kernel
theorem dX5_goesTold_62 : decode cX5_goesTold 62 = .ok (.ireturn, 1) := by decide +kernel
set_option maxHeartbeats 4000000 in
set_option maxRecDepth 100000 in
theorem g_X5_goesTold {E : fh_E} {M : fh_M} (C : fh_Cx E M cX5_goesTold 3 RX5 ((some FieldType.int)) rm_X5_goesTold) (Hr : fh_Rt E M) (k1 : Nat) (σ2 : fh_S) : fh_Go E M 3 fh_vI 0 [(0, .ref (fh_ad E k1))] [] σ2 (f_X5_goesTold k1 σ2) := by
  have hok := fh_cok C
  refine go_ob ?_
  refine go_aload_n C 0 rfl rfl dX5_goesTold_0 ?_
  refine go_gi (ci := 5) (j := 12) C fh_in5 rfl (by decide) rfl q_758 dX5_goesTold_1 (fun v3 => ?_)
  refine go_jn (fun (j11 : Int32 → fh_S → Option (Int32 × fh_S)) => ∀ (x4 : Int32) (σ5 : fh_S), fh_Go E M 3 fh_vI 34 [(0, .ref (fh_ad E k1))] [.int x4] σ5 (j11 x4 σ5)) ?_ (fun j11 hj11 => ?_)
  · intro x4 σ5
    refine go_istore_n C [(1, .int x4), (0, .ref (fh_ad E k1))] rfl rfl (by decide) dX5_goesTold_34 ?_
    refine go_iload_n C 0 rfl rfl dX5_goesTold_35 ?_
    refine go_jn (fun (j9 : fh_S → Option (Int32 × fh_S)) => ∀ (σ6 : fh_S), fh_Go E M 3 fh_vI 44 [(0, .ref (fh_ad E k1)), (1, .int x4)] [] σ6 (j9 σ6)) ?_ (fun j9 hj9 => ?_)
    · intro σ6
      refine go_aload_n C 0 rfl rfl dX5_goesTold_44 ?_
      refine go_iconst C (0 : Int32) dX5_goesTold_45 rfl ?_
      refine go_bipush C (99 : Int32) dX5_goesTold_46 rfl ?_
      refine go_callVI C (st := []) [.int ((0 : Int32)), .int ((99 : Int32))] (m_X5_number E _ hok k1 ((0 : Int32)) ((99 : Int32)) σ6) (fun _ h => fh_ob_ok h) rfl rfl ⟨q_1161, q_1163, qs_60, q_6, q_1164⟩ pd_X5_number rfl ⟨⟨Nat.le_of_ble_eq_true rfl, Nat.le_of_ble_eq_true rfl⟩, rfl, rfl⟩ (Nat.le_of_ble_eq_true rfl) dX5_goesTold_48 (fun r8 σ7 => ?_)
      refine go_istore_n C [(2, .int r8), (0, .ref (fh_ad E k1)), (1, .int x4)] rfl rfl (by decide) dX5_goesTold_51 ?_
      refine go_iload_n C 2 rfl rfl dX5_goesTold_52 ?_
      refine go_if_eq (tgt := 61) C dX5_goesTold_53 rfl (fun _ => ?_) (fun _ => ?_)
      · refine go_iload_n C 0 rfl rfl dX5_goesTold_61 ?_
        exact go_iret C Hr rfl dX5_goesTold_62
      · refine go_iload_n C 0 rfl rfl dX5_goesTold_56 ?_
        refine go_ineg C dX5_goesTold_57 ?_
        refine go_goto C 62 dX5_goesTold_58 rfl ?_
        exact go_iret C Hr rfl dX5_goesTold_62
    refine go_if_eq (tgt := 44) C dX5_goesTold_36 rfl (fun _ => ?_) (fun _ => ?_)
    · refine go_lv [1, 0] (lv' := [(0, .ref (fh_ad E k1)), (1, .int x4)]) rfl ?_
      exact hj9 σ5
    · refine go_aload_n C 1 rfl rfl dX5_goesTold_39 ?_
      refine go_iconst C (1 : Int32) dX5_goesTold_40 rfl ?_
      refine go_callVU C (st := []) [.int ((1 : Int32))] (m_X5_must E _ hok k1 ((1 : Int32)) σ5) (fun _ h => fh_ob_ok h) rfl rfl ⟨q_1152, q_1154, qs_58, q_6, q_1155⟩ pd_X5_must rfl ⟨⟨Nat.le_of_ble_eq_true rfl, Nat.le_of_ble_eq_true rfl⟩, rfl, rfl⟩ (Nat.le_of_ble_eq_true rfl) dX5_goesTold_41 (fun _ σ10 => ?_)
      refine go_lv [1, 0] (lv' := [(0, .ref (fh_ad E k1)), (1, .int x4)]) rfl ?_
      exact hj9 σ10
  refine go_jn (fun (j13 : fh_S → Option (Int32 × fh_S)) => ∀ (σ12 : fh_S), fh_Go E M 3 fh_vI 33 [(0, .ref (fh_ad E k1))] [] σ12 (j13 σ12)) ?_ (fun j13 hj13 => ?_)
  · intro σ12
    refine go_iconst C (0 : Int32) dX5_goesTold_33 rfl ?_
    exact hj11 ((0 : Int32)) σ12
  refine go_if_ne (tgt := 33) C dX5_goesTold_4 rfl (fun _ => ?_) (fun _ => ?_)
  · exact hj13 σ2
  · refine go_aload_n C 0 rfl rfl dX5_goesTold_7 ?_
    refine go_gi (ci := 5) (j := 10) C fh_in5 rfl (by decide) rfl q_756 dX5_goesTold_8 (fun v14 => ?_)
    refine go_iconst C (3 : Int32) dX5_goesTold_11 rfl ?_
    refine go_icmp_ne (tgt := 33) C dX5_goesTold_12 rfl (fun _ => ?_) (fun _ => ?_)
    · exact hj13 σ2
    · refine go_aload_n C 0 rfl rfl dX5_goesTold_15 ?_
      refine go_gr (ci := 5) (j := 6) C fh_in5 rfl (by decide) rfl q_752 dX5_goesTold_16 (fun k15 => ?_)
      refine go_aload_n C 0 rfl rfl dX5_goesTold_19 ?_
      refine go_gi (ci := 5) (j := 8) C fh_in5 rfl (by decide) rfl q_754 dX5_goesTold_20 (fun v16 => ?_)
      refine go_iald C dX5_goesTold_23 (fun v17 => ?_)
      refine go_bipush C (45 : Int32) dX5_goesTold_24 rfl ?_
      refine go_icmp_ne (tgt := 33) C dX5_goesTold_26 rfl (fun _ => ?_) (fun _ => ?_)
      · exact hj13 σ2
      · refine go_iconst C (1 : Int32) dX5_goesTold_29 rfl ?_
        refine go_goto C 34 dX5_goesTold_30 rfl ?_
        exact hj11 ((1 : Int32)) σ2
theorem m_X5_goesTold (E : fh_E) (l : Launch) (hok : fh_ok E) (k1 : Nat) (σ2 : fh_S) : fh_Met E l yX5_goesTold cX5_goesTold 3 ((some FieldType.int)) rm_X5_goesTold fh_vI [.ref (fh_ad E k1)] σ2 (f_X5_goesTold k1 σ2) := fh_met hok (by decide +kernel) (Nat.le_of_ble_eq_true rfl) (fun M _ C Hr => g_X5_goesTold C Hr k1 σ2)
def f_X5_readItem_J163 (k1 : Nat) (r4 : Int32) (x23 : Int32) (x27 : Int32) (x39 : Int32) (x35 : Int32) : Int32 → fh_S → Option (Unit × fh_S) := fun x41 σ42 => fh_cb (f_X5_item k1 r4 x23 x27 x39 x41 x35 σ42) fun _ σ43 => some ((), σ43)
def f_X5_readItem_J153 (k1 : Nat) (r4 : Int32) (x23 : Int32) (x27 : Int32) (x35 : Int32) (r38 : Int32) : Int32 → fh_S → Option (Unit × fh_S) := fun x39 σ40 => fh_jn (f_X5_readItem_J163 k1 r4 x23 x27 x39 x35) (fun j44 => if r38 = 0 then j44 ((0 : Int32)) σ40 else j44 ((1 : Int32)) σ40)
def f_X5_readItem_J127 (k1 : Nat) (r4 : Int32) (x23 : Int32) (x27 : Int32) (x31 : Int32) : Int32 → fh_S → Option (Unit × fh_S) := fun x35 σ36 => fh_cb (f_X5_isNext k1 25 σ36) fun r38 σ37 => fh_jn (f_X5_readItem_J153 k1 r4 x23 x27 x35 r38) (fun j45 => if r38 = 0 then j45 x31 σ37 else j45 ((0 : Int32)) σ37)
def f_X5_readItem_J104 (k1 : Nat) (r4 : Int32) (x23 : Int32) (x27 : Int32) : Int32 → fh_S → Option (Unit × fh_S) := fun x31 σ32 => fh_cb (f_X5_isNext k1 24 σ32) fun r34 σ33 => fh_jn (f_X5_readItem_J127 k1 r4 x23 x27 x31) (fun j46 => if r34 = 0 then j46 ((0 : Int32)) σ33 else fh_cb (f_X5_number k1 ((0 : Int32)) ((9 : Int32)) σ33) fun r48 σ47 => j46 r48 σ47)
def f_X5_readItem_J85 (k1 : Nat) (r4 : Int32) (x23 : Int32) : Int32 → fh_S → Option (Unit × fh_S) := fun x27 σ28 => fh_cb (f_X5_isNext k1 23 σ28) fun r30 σ29 => fh_jn (f_X5_readItem_J104 k1 r4 x23 x27) (fun j49 => if r30 = 0 then j49 ((1 : Int32)) σ29 else fh_cb (f_X5_goesTold k1 σ29) fun r51 σ50 => j49 r51 σ50)
def f_X5_readItem_J59 (k1 : Nat) (r4 : Int32) : Int32 → fh_S → Option (Unit × fh_S) := fun x23 σ24 => fh_cb (f_X5_isNext k1 22 σ24) fun r26 σ25 => fh_jn (f_X5_readItem_J85 k1 r4 x23) (fun j52 => if r26 = 0 then j52 ((-1 : Int32)) σ25 else (fh_gi σ25 5 k1 16).bind fun v53 => fh_cb (f_X5_number k1 ((0 : Int32)) (v53 - ((1 : Int32))) σ25) fun r55 σ54 => j52 r55 σ54)
def f_X5_readItem_J24 (k1 : Nat) (r4 : Int32) : Int32 → fh_S → Option (Unit × fh_S) := fun x16 σ17 => fh_cb (f_X5_must k1 x16 σ17) fun _ σ18 => (fh_gi σ18 5 k1 16).bind fun v19 => (fh_pf σ18 5 k1 16 (v19 + ((1 : Int32)))).bind fun σ20 => fh_cb (f_X5_isNext k1 21 σ20) fun r22 σ21 => fh_jn (f_X5_readItem_J59 k1 r4) (fun j56 => if r22 = 0 then j56 ((0 : Int32)) σ21 else fh_cb (f_X5_number k1 ((0 : Int32)) ((719 : Int32)) σ21) fun r58 σ57 => j56 r58 σ57)
def f_X5_readItem (k1 : Nat) (σ2 : fh_S) : Option (Unit × fh_S) := fh_ob 5 k1 (fh_cb (f_X5_kindTold k1 σ2) fun r4 σ3 => if r4 < 0 then fh_cb (f_X5_isWord k1 20 σ3) fun r6 σ5 => fh_cb (f_X5_must k1 r6 σ5) fun _ σ7 => (fh_gi σ7 5 k1 16).bind fun v8 => fh_cb (f_X5_number k1 ((0 : Int32)) (v8 - ((1 : Int32))) σ7) fun r10 σ9 => (fh_gi σ9 5 k1 16).bind fun v11 => fh_cb (f_X5_number k1 ((0 : Int32)) (v11 - ((1 : Int32))) σ9) fun r13 σ12 => fh_cb (f_X5_item k1 ((10 : Int32)) r10 r13 ((0 : Int32)) ((0 : Int32)) ((0 : Int32)) σ12) fun _ σ14 => some ((), σ14) else (fh_gi σ3 5 k1 16).bind fun v15 => fh_jn (f_X5_readItem_J24 k1 r4) (fun j59 => if ((10 : Int32)) ≤ v15 then j59 ((0 : Int32)) σ3 else j59 ((1 : Int32)) σ3))
abbrev rm_X5_readItem : Room := { frames := 6, cells := 0, slots := 0, locals := 130 }
theorem pd_X5_readItem : yX5_readItem.cls ≠ "java/lang/invoke/MethodHandle" ∧ yX5_readItem.cls ≠ "java/lang/invoke/VarHandle" ∧ (parseMethodDescriptor yX5_readItem.desc).map (fun d => d.parameters.length) = some 0 := by decide +kernel
theorem dX5_readItem_0 : decode cX5_readItem 0 = .ok (.aload_n 0, 1) := by decide +kernel
theorem dX5_readItem_1 : decode cX5_readItem 1 = .ok (.invokevirtual 274, 3) := by decide +kernel
theorem dX5_readItem_4 : decode cX5_readItem 4 = .ok (.istore_n 1, 1) := by decide +kernel
theorem dX5_readItem_5 : decode cX5_readItem 5 = .ok (.iload_n 1, 1) := by decide +kernel
theorem dX5_readItem_6 : decode cX5_readItem 6 = .ok (.ifCond .lt 165, 3) := by decide +kernel
theorem dX5_readItem_9 : decode cX5_readItem 9 = .ok (.aload_n 0, 1) := by decide +kernel
theorem dX5_readItem_10 : decode cX5_readItem 10 = .ok (.aload_n 0, 1) := by decide +kernel
theorem dX5_readItem_11 : decode cX5_readItem 11 = .ok (.getfield 277, 3) := by decide +kernel
theorem dX5_readItem_14 : decode cX5_readItem 14 = .ok (.bipush 10, 2) := by decide +kernel
theorem dX5_readItem_16 : decode cX5_readItem 16 = .ok (.if_icmp .ge 7, 3) := by decide +kernel
theorem dX5_readItem_19 : decode cX5_readItem 19 = .ok (.iconst 1, 1) := by decide +kernel
theorem dX5_readItem_20 : decode cX5_readItem 20 = .ok (.goto 4, 3) := by decide +kernel
theorem dX5_readItem_23 : decode cX5_readItem 23 = .ok (.iconst 0, 1) := by decide +kernel
theorem dX5_readItem_24 : decode cX5_readItem 24 = .ok (.invokevirtual 260, 3) := by decide +kernel
theorem dX5_readItem_27 : decode cX5_readItem 27 = .ok (.aload_n 0, 1) := by decide +kernel
theorem dX5_readItem_28 : decode cX5_readItem 28 = .ok (.dup, 1) := by decide +kernel
theorem dX5_readItem_29 : decode cX5_readItem 29 = .ok (.getfield 277, 3) := by decide +kernel
theorem dX5_readItem_32 : decode cX5_readItem 32 = .ok (.iconst 1, 1) := by decide +kernel
theorem dX5_readItem_33 : decode cX5_readItem 33 = .ok (.iadd, 1) := by decide +kernel
theorem dX5_readItem_34 : decode cX5_readItem 34 = .ok (.putfield 277, 3) := by decide +kernel
theorem dX5_readItem_37 : decode cX5_readItem 37 = .ok (.aload_n 0, 1) := by decide +kernel
theorem dX5_readItem_38 : decode cX5_readItem 38 = .ok (.ldc_w 280, 3) := by decide +kernel
theorem dX5_readItem_41 : decode cX5_readItem 41 = .ok (.invokevirtual 282, 3) := by decide +kernel
theorem dX5_readItem_44 : decode cX5_readItem 44 = .ok (.ifCond .eq 14, 3) := by decide +kernel
theorem dX5_readItem_47 : decode cX5_readItem 47 = .ok (.aload_n 0, 1) := by decide +kernel
theorem dX5_readItem_48 : decode cX5_readItem 48 = .ok (.iconst 0, 1) := by decide +kernel
theorem dX5_readItem_49 : decode cX5_readItem 49 = .ok (.sipush 719, 3) := by decide +kernel
theorem dX5_readItem_52 : decode cX5_readItem 52 = .ok (.invokevirtual 271, 3) := by decide +kernel
theorem dX5_readItem_55 : decode cX5_readItem 55 = .ok (.goto 4, 3) := by decide +kernel
theorem dX5_readItem_58 : decode cX5_readItem 58 = .ok (.iconst 0, 1) := by decide +kernel
theorem dX5_readItem_59 : decode cX5_readItem 59 = .ok (.istore_n 2, 1) := by decide +kernel
theorem dX5_readItem_60 : decode cX5_readItem 60 = .ok (.aload_n 0, 1) := by decide +kernel
theorem dX5_readItem_61 : decode cX5_readItem 61 = .ok (.ldc_w 285, 3) := by decide +kernel
theorem dX5_readItem_64 : decode cX5_readItem 64 = .ok (.invokevirtual 282, 3) := by decide +kernel
theorem dX5_readItem_67 : decode cX5_readItem 67 = .ok (.ifCond .eq 17, 3) := by decide +kernel
theorem dX5_readItem_70 : decode cX5_readItem 70 = .ok (.aload_n 0, 1) := by decide +kernel
theorem dX5_readItem_71 : decode cX5_readItem 71 = .ok (.iconst 0, 1) := by decide +kernel
theorem dX5_readItem_72 : decode cX5_readItem 72 = .ok (.aload_n 0, 1) := by decide +kernel
theorem dX5_readItem_73 : decode cX5_readItem 73 = .ok (.getfield 277, 3) := by decide +kernel
theorem dX5_readItem_76 : decode cX5_readItem 76 = .ok (.iconst 1, 1) := by decide +kernel
theorem dX5_readItem_77 : decode cX5_readItem 77 = .ok (.isub, 1) := by decide +kernel
theorem dX5_readItem_78 : decode cX5_readItem 78 = .ok (.invokevirtual 271, 3) := by decide +kernel
theorem dX5_readItem_81 : decode cX5_readItem 81 = .ok (.goto 4, 3) := by decide +kernel
theorem dX5_readItem_84 : decode cX5_readItem 84 = .ok (.iconst (-1), 1) := by decide +kernel
theorem dX5_readItem_85 : decode cX5_readItem 85 = .ok (.istore_n 3, 1) := by decide +kernel
theorem dX5_readItem_86 : decode cX5_readItem 86 = .ok (.aload_n 0, 1) := by decide +kernel
theorem dX5_readItem_87 : decode cX5_readItem 87 = .ok (.ldc_w 287, 3) := by decide +kernel
theorem dX5_readItem_90 : decode cX5_readItem 90 = .ok (.invokevirtual 282, 3) := by decide +kernel
theorem dX5_readItem_93 : decode cX5_readItem 93 = .ok (.ifCond .eq 10, 3) := by decide +kernel
theorem dX5_readItem_96 : decode cX5_readItem 96 = .ok (.aload_n 0, 1) := by decide +kernel
theorem dX5_readItem_97 : decode cX5_readItem 97 = .ok (.invokevirtual 289, 3) := by decide +kernel
theorem dX5_readItem_100 : decode cX5_readItem 100 = .ok (.goto 4, 3) := by decide +kernel
theorem dX5_readItem_103 : decode cX5_readItem 103 = .ok (.iconst 1, 1) := by decide +kernel
theorem dX5_readItem_104 : decode cX5_readItem 104 = .ok (.istore 4, 2) := by decide +kernel
theorem dX5_readItem_106 : decode cX5_readItem 106 = .ok (.aload_n 0, 1) := by decide +kernel
theorem dX5_readItem_107 : decode cX5_readItem 107 = .ok (.ldc_w 292, 3) := by decide +kernel
theorem dX5_readItem_110 : decode cX5_readItem 110 = .ok (.invokevirtual 282, 3) := by decide +kernel
theorem dX5_readItem_113 : decode cX5_readItem 113 = .ok (.ifCond .eq 13, 3) := by decide +kernel
theorem dX5_readItem_116 : decode cX5_readItem 116 = .ok (.aload_n 0, 1) := by decide +kernel
theorem dX5_readItem_117 : decode cX5_readItem 117 = .ok (.iconst 0, 1) := by decide +kernel
theorem dX5_readItem_118 : decode cX5_readItem 118 = .ok (.bipush 9, 2) := by decide +kernel
theorem dX5_readItem_120 : decode cX5_readItem 120 = .ok (.invokevirtual 271, 3) := by decide +kernel
theorem dX5_readItem_123 : decode cX5_readItem 123 = .ok (.goto 4, 3) := by decide +kernel
theorem dX5_readItem_126 : decode cX5_readItem 126 = .ok (.iconst 0, 1) := by decide +kernel
theorem dX5_readItem_127 : decode cX5_readItem 127 = .ok (.istore 5, 2) := by decide +kernel
theorem dX5_readItem_129 : decode cX5_readItem 129 = .ok (.aload_n 0, 1) := by decide +kernel
theorem dX5_readItem_130 : decode cX5_readItem 130 = .ok (.ldc_w 294, 3) := by decide +kernel
theorem dX5_readItem_133 : decode cX5_readItem 133 = .ok (.invokevirtual 282, 3) := by decide +kernel
theorem dX5_readItem_136 : decode cX5_readItem 136 = .ok (.istore 6, 2) := by decide +kernel
theorem dX5_readItem_138 : decode cX5_readItem 138 = .ok (.aload_n 0, 1) := by decide +kernel
theorem dX5_readItem_139 : decode cX5_readItem 139 = .ok (.iload_n 1, 1) := by decide +kernel
theorem dX5_readItem_140 : decode cX5_readItem 140 = .ok (.iload_n 2, 1) := by decide +kernel
theorem dX5_readItem_141 : decode cX5_readItem 141 = .ok (.iload_n 3, 1) := by decide +kernel
theorem dX5_readItem_142 : decode cX5_readItem 142 = .ok (.iload 6, 2) := by decide +kernel
theorem dX5_readItem_144 : decode cX5_readItem 144 = .ok (.ifCond .eq 7, 3) := by decide +kernel
theorem dX5_readItem_147 : decode cX5_readItem 147 = .ok (.iconst 0, 1) := by decide +kernel
theorem dX5_readItem_148 : decode cX5_readItem 148 = .ok (.goto 5, 3) := by decide +kernel
theorem dX5_readItem_151 : decode cX5_readItem 151 = .ok (.iload 4, 2) := by decide +kernel
theorem dX5_readItem_153 : decode cX5_readItem 153 = .ok (.iload 6, 2) := by decide +kernel
theorem dX5_readItem_155 : decode cX5_readItem 155 = .ok (.ifCond .eq 7, 3) := by decide +kernel
theorem dX5_readItem_158 : decode cX5_readItem 158 = .ok (.iconst 1, 1) := by decide +kernel
theorem dX5_readItem_159 : decode cX5_readItem 159 = .ok (.goto 4, 3) := by decide +kernel
theorem dX5_readItem_162 : decode cX5_readItem 162 = .ok (.iconst 0, 1) := by decide +kernel
theorem dX5_readItem_163 : decode cX5_readItem 163 = .ok (.iload 5, 2) := by decide +kernel
theorem dX5_readItem_165 : decode cX5_readItem 165 = .ok (.invokevirtual 296, 3) := by decide +kernel
theorem dX5_readItem_168 : decode cX5_readItem 168 = .ok (.goto 47, 3) := by decide +kernel
theorem dX5_readItem_171 : decode cX5_readItem 171 = .ok (.aload_n 0, 1) := by decide +kernel
theorem dX5_readItem_172 : decode cX5_readItem 172 = .ok (.aload_n 0, 1) := by decide +kernel
theorem dX5_readItem_173 : decode cX5_readItem 173 = .ok (.ldc_w 300, 3) := by decide +kernel
theorem dX5_readItem_176 : decode cX5_readItem 176 = .ok (.invokevirtual 267, 3) := by decide +kernel
theorem dX5_readItem_179 : decode cX5_readItem 179 = .ok (.invokevirtual 260, 3) := by decide +kernel
theorem dX5_readItem_182 : decode cX5_readItem 182 = .ok (.aload_n 0, 1) := by decide +kernel
theorem dX5_readItem_183 : decode cX5_readItem 183 = .ok (.iconst 0, 1) := by decide +kernel
theorem dX5_readItem_184 : decode cX5_readItem 184 = .ok (.aload_n 0, 1) := by decide +kernel
theorem dX5_readItem_185 : decode cX5_readItem 185 = .ok (.getfield 277, 3) := by decide +kernel
theorem dX5_readItem_188 : decode cX5_readItem 188 = .ok (.iconst 1, 1) := by decide +kernel
theorem dX5_readItem_189 : decode cX5_readItem 189 = .ok (.isub, 1) := by decide +kernel
theorem dX5_readItem_190 : decode cX5_readItem 190 = .ok (.invokevirtual 271, 3) := by decide +kernel
theorem dX5_readItem_193 : decode cX5_readItem 193 = .ok (.istore_n 2, 1) := by decide +kernel
theorem dX5_readItem_194 : decode cX5_readItem 194 = .ok (.aload_n 0, 1) := by decide +kernel
theorem dX5_readItem_195 : decode cX5_readItem 195 = .ok (.bipush 10, 2) := by decide +kernel
theorem dX5_readItem_197 : decode cX5_readItem 197 = .ok (.iload_n 2, 1) := by decide +kernel
theorem dX5_readItem_198 : decode cX5_readItem 198 = .ok (.aload_n 0, 1) := by decide +kernel
theorem dX5_readItem_199 : decode cX5_readItem 199 = .ok (.iconst 0, 1) := by decide +kernel
theorem dX5_readItem_200 : decode cX5_readItem 200 = .ok (.aload_n 0, 1) := by decide +kernel
theorem dX5_readItem_201 : decode cX5_readItem 201 = .ok (.getfield 277, 3) := by decide +kernel
theorem dX5_readItem_204 : decode cX5_readItem 204 = .ok (.iconst 1, 1) := by decide +kernel
theorem dX5_readItem_205 : decode cX5_readItem 205 = .ok (.isub, 1) := by decide +kernel
theorem dX5_readItem_206 : decode cX5_readItem 206 = .ok (.invokevirtual 271, 3) := by decide +kernel
theorem dX5_readItem_209 : decode cX5_readItem 209 = .ok (.iconst 0, 1) := by decide +kernel
theorem dX5_readItem_210 : decode cX5_readItem 210 = .ok (.iconst 0, 1) := by decide +kernel
theorem dX5_readItem_211 : decode cX5_readItem 211 = .ok (.iconst 0, 1) := by decide +kernel
theorem dX5_readItem_212 : decode cX5_readItem 212 = .ok (.invokevirtual 296, 3) := by decide +kernel
theorem dX5_readItem_215 : decode cX5_readItem 215 = .ok (.return_, 1) := by decide +kernel
set_option maxHeartbeats 4000000 in
set_option maxRecDepth 100000 in
theorem g_X5_readItem {E : fh_E} {M : fh_M} (C : fh_Cx E M cX5_readItem 7 RX5 (none) rm_X5_readItem) (Hr : fh_Rt E M) (k1 : Nat) (σ2 : fh_S) : fh_Go E M 7 fh_vU 0 [(0, .ref (fh_ad E k1))] [] σ2 (f_X5_readItem k1 σ2) := by
  have hok := fh_cok C
  refine go_ob ?_
  refine go_aload_n C 0 rfl rfl dX5_readItem_0 ?_
  refine go_callVI C (st := []) [] (m_X5_kindTold E _ hok k1 σ2) (fun _ h => fh_ob_ok h) rfl rfl ⟨q_1142, q_1144, qs_56, q_6, q_1145⟩ pd_X5_kindTold rfl ⟨⟨Nat.le_of_ble_eq_true rfl, Nat.le_of_ble_eq_true rfl⟩, rfl, rfl⟩ (Nat.le_of_ble_eq_true rfl) dX5_readItem_1 (fun r4 σ3 => ?_)
  refine go_istore_n C [(1, .int r4), (0, .ref (fh_ad E k1))] rfl rfl (by decide) dX5_readItem_4 ?_
  refine go_iload_n C 0 rfl rfl dX5_readItem_5 ?_
  refine go_if_lt (tgt := 171) C dX5_readItem_6 rfl (fun _ => ?_) (fun _ => ?_)
  · refine go_aload_n C 1 rfl rfl dX5_readItem_171 ?_
    refine go_aload_n C 1 rfl rfl dX5_readItem_172 ?_
    refine go_ldcwS C 20 rfl dX5_readItem_173 ?_
    refine go_callVI C (st := [.ref (fh_ad E k1)]) [.ref (fh_aK E 20)] (m_X5_isWord E _ hok k1 20 σ3) (fun _ h => fh_ob_ok h) rfl rfl ⟨q_1146, q_1148, qs_57, q_6, q_1149⟩ pd_X5_isWord rfl ⟨⟨Nat.le_of_ble_eq_true rfl, Nat.le_of_ble_eq_true rfl⟩, rfl, rfl⟩ (Nat.le_of_ble_eq_true rfl) dX5_readItem_176 (fun r6 σ5 => ?_)
    refine go_callVU C (st := []) [.int r6] (m_X5_must E _ hok k1 r6 σ5) (fun _ h => fh_ob_ok h) rfl rfl ⟨q_1152, q_1154, qs_58, q_6, q_1155⟩ pd_X5_must rfl ⟨⟨Nat.le_of_ble_eq_true rfl, Nat.le_of_ble_eq_true rfl⟩, rfl, rfl⟩ (Nat.le_of_ble_eq_true rfl) dX5_readItem_179 (fun _ σ7 => ?_)
    refine go_aload_n C 1 rfl rfl dX5_readItem_182 ?_
    refine go_iconst C (0 : Int32) dX5_readItem_183 rfl ?_
    refine go_aload_n C 1 rfl rfl dX5_readItem_184 ?_
    refine go_gi (ci := 5) (j := 16) C fh_in5 rfl (by decide) rfl q_762 dX5_readItem_185 (fun v8 => ?_)
    refine go_iconst C (1 : Int32) dX5_readItem_188 rfl ?_
    refine go_isub C dX5_readItem_189 ?_
    refine go_callVI C (st := []) [.int ((0 : Int32)), .int (v8 - ((1 : Int32)))] (m_X5_number E _ hok k1 ((0 : Int32)) (v8 - ((1 : Int32))) σ7) (fun _ h => fh_ob_ok h) rfl rfl ⟨q_1161, q_1163, qs_60, q_6, q_1164⟩ pd_X5_number rfl ⟨⟨Nat.le_of_ble_eq_true rfl, Nat.le_of_ble_eq_true rfl⟩, rfl, rfl⟩ (Nat.le_of_ble_eq_true rfl) dX5_readItem_190 (fun r10 σ9 => ?_)
    refine go_istore_n C [(2, .int r10), (1, .int r4), (0, .ref (fh_ad E k1))] rfl rfl (by decide) dX5_readItem_193 ?_
    refine go_aload_n C 2 rfl rfl dX5_readItem_194 ?_
    refine go_bipush C (10 : Int32) dX5_readItem_195 rfl ?_
    refine go_iload_n C 0 rfl rfl dX5_readItem_197 ?_
    refine go_aload_n C 2 rfl rfl dX5_readItem_198 ?_
    refine go_iconst C (0 : Int32) dX5_readItem_199 rfl ?_
    refine go_aload_n C 2 rfl rfl dX5_readItem_200 ?_
    refine go_gi (ci := 5) (j := 16) C fh_in5 rfl (by decide) rfl q_762 dX5_readItem_201 (fun v11 => ?_)
    refine go_iconst C (1 : Int32) dX5_readItem_204 rfl ?_
    refine go_isub C dX5_readItem_205 ?_
    refine go_callVI C (st := [.int r10, .int ((10 : Int32)), .ref (fh_ad E k1)]) [.int ((0 : Int32)), .int (v11 - ((1 : Int32)))] (m_X5_number E _ hok k1 ((0 : Int32)) (v11 - ((1 : Int32))) σ9) (fun _ h => fh_ob_ok h) rfl rfl ⟨q_1161, q_1163, qs_60, q_6, q_1164⟩ pd_X5_number rfl ⟨⟨Nat.le_of_ble_eq_true rfl, Nat.le_of_ble_eq_true rfl⟩, rfl, rfl⟩ (Nat.le_of_ble_eq_true rfl) dX5_readItem_206 (fun r13 σ12 => ?_)
    refine go_iconst C (0 : Int32) dX5_readItem_209 rfl ?_
    refine go_iconst C (0 : Int32) dX5_readItem_210 rfl ?_
    refine go_iconst C (0 : Int32) dX5_readItem_211 rfl ?_
    refine go_callVU C (st := []) [.int ((10 : Int32)), .int r10, .int r13, .int ((0 : Int32)), .int ((0 : Int32)), .int ((0 : Int32))] (m_X5_item E _ hok k1 ((10 : Int32)) r10 r13 ((0 : Int32)) ((0 : Int32)) ((0 : Int32)) σ12) (fun _ h => fh_ob_ok h) rfl rfl ⟨q_1173, q_1175, qs_62, q_6, q_1176⟩ pd_X5_item rfl ⟨⟨Nat.le_of_ble_eq_true rfl, Nat.le_of_ble_eq_true rfl⟩, rfl, rfl⟩ (Nat.le_of_ble_eq_true rfl) dX5_readItem_212 (fun _ σ14 => ?_)
    exact go_vret C Hr rfl dX5_readItem_215
  · refine go_aload_n C 1 rfl rfl dX5_readItem_9 ?_
    refine go_aload_n C 1 rfl rfl dX5_readItem_10 ?_
    refine go_gi (ci := 5) (j := 16) C fh_in5 rfl (by decide) rfl q_762 dX5_readItem_11 (fun v15 => ?_)
    refine go_bipush C (10 : Int32) dX5_readItem_14 rfl ?_
    refine go_jn (fun (j59 : Int32 → fh_S → Option (Unit × fh_S)) => ∀ (x16 : Int32) (σ17 : fh_S), fh_Go E M 7 fh_vU 24 [(0, .ref (fh_ad E k1)), (1, .int r4)] [.int x16, .ref (fh_ad E k1)] σ17 (j59 x16 σ17)) ?_ (fun j59 hj59 => ?_)
    · intro x16 σ17
      refine go_callVU C (st := []) [.int x16] (m_X5_must E _ hok k1 x16 σ17) (fun _ h => fh_ob_ok h) rfl rfl ⟨q_1152, q_1154, qs_58, q_6, q_1155⟩ pd_X5_must rfl ⟨⟨Nat.le_of_ble_eq_true rfl, Nat.le_of_ble_eq_true rfl⟩, rfl, rfl⟩ (Nat.le_of_ble_eq_true rfl) dX5_readItem_24 (fun _ σ18 => ?_)
      refine go_aload_n C 0 rfl rfl dX5_readItem_27 ?_
      refine go_dup C rfl dX5_readItem_28 ?_
      refine go_gi (ci := 5) (j := 16) C fh_in5 rfl (by decide) rfl q_762 dX5_readItem_29 (fun v19 => ?_)
      refine go_iconst C (1 : Int32) dX5_readItem_32 rfl ?_
      refine go_iadd C dX5_readItem_33 ?_
      refine go_pf (ci := 5) (j := 16) C tyX5 tyX5_ok nmX5 fh_in5 rfl (by decide) rfl q_762 rfl rfl dX5_readItem_34 (fun σ20 => ?_)
      refine go_aload_n C 0 rfl rfl dX5_readItem_37 ?_
      refine go_ldcwS C 21 rfl dX5_readItem_38 ?_
      refine go_callVI C (st := []) [.ref (fh_aK E 21)] (m_X5_isNext E _ hok k1 21 σ20) (fun _ h => fh_ob_ok h) rfl rfl ⟨q_1157, q_1159, qs_59, q_6, q_1160⟩ pd_X5_isNext rfl ⟨⟨Nat.le_of_ble_eq_true rfl, Nat.le_of_ble_eq_true rfl⟩, rfl, rfl⟩ (Nat.le_of_ble_eq_true rfl) dX5_readItem_41 (fun r22 σ21 => ?_)
      refine go_jn (fun (j56 : Int32 → fh_S → Option (Unit × fh_S)) => ∀ (x23 : Int32) (σ24 : fh_S), fh_Go E M 7 fh_vU 59 [(0, .ref (fh_ad E k1)), (1, .int r4)] [.int x23] σ24 (j56 x23 σ24)) ?_ (fun j56 hj56 => ?_)
      · intro x23 σ24
        refine go_istore_n C [(2, .int x23), (0, .ref (fh_ad E k1)), (1, .int r4)] rfl rfl (by decide) dX5_readItem_59 ?_
        refine go_aload_n C 1 rfl rfl dX5_readItem_60 ?_
        refine go_ldcwS C 22 rfl dX5_readItem_61 ?_
        refine go_callVI C (st := []) [.ref (fh_aK E 22)] (m_X5_isNext E _ hok k1 22 σ24) (fun _ h => fh_ob_ok h) rfl rfl ⟨q_1157, q_1159, qs_59, q_6, q_1160⟩ pd_X5_isNext rfl ⟨⟨Nat.le_of_ble_eq_true rfl, Nat.le_of_ble_eq_true rfl⟩, rfl, rfl⟩ (Nat.le_of_ble_eq_true rfl) dX5_readItem_64 (fun r26 σ25 => ?_)
        refine go_jn (fun (j52 : Int32 → fh_S → Option (Unit × fh_S)) => ∀ (x27 : Int32) (σ28 : fh_S), fh_Go E M 7 fh_vU 85 [(0, .ref (fh_ad E k1)), (1, .int r4), (2, .int x23)] [.int x27] σ28 (j52 x27 σ28)) ?_ (fun j52 hj52 => ?_)
        · intro x27 σ28
          refine go_istore_n C [(3, .int x27), (0, .ref (fh_ad E k1)), (1, .int r4), (2, .int x23)] rfl rfl (by decide) dX5_readItem_85 ?_
          refine go_aload_n C 1 rfl rfl dX5_readItem_86 ?_
          refine go_ldcwS C 23 rfl dX5_readItem_87 ?_
          refine go_callVI C (st := []) [.ref (fh_aK E 23)] (m_X5_isNext E _ hok k1 23 σ28) (fun _ h => fh_ob_ok h) rfl rfl ⟨q_1157, q_1159, qs_59, q_6, q_1160⟩ pd_X5_isNext rfl ⟨⟨Nat.le_of_ble_eq_true rfl, Nat.le_of_ble_eq_true rfl⟩, rfl, rfl⟩ (Nat.le_of_ble_eq_true rfl) dX5_readItem_90 (fun r30 σ29 => ?_)
          refine go_jn (fun (j49 : Int32 → fh_S → Option (Unit × fh_S)) => ∀ (x31 : Int32) (σ32 : fh_S), fh_Go E M 7 fh_vU 104 [(0, .ref (fh_ad E k1)), (1, .int r4), (2, .int x23), (3, .int x27)] [.int x31] σ32 (j49 x31 σ32)) ?_ (fun j49 hj49 => ?_)
          · intro x31 σ32
            refine go_istore C [(4, .int x31), (0, .ref (fh_ad E k1)), (1, .int r4), (2, .int x23), (3, .int x27)] rfl (by decide) dX5_readItem_104 ?_
            refine go_aload_n C 1 rfl rfl dX5_readItem_106 ?_
            refine go_ldcwS C 24 rfl dX5_readItem_107 ?_
            refine go_callVI C (st := []) [.ref (fh_aK E 24)] (m_X5_isNext E _ hok k1 24 σ32) (fun _ h => fh_ob_ok h) rfl rfl ⟨q_1157, q_1159, qs_59, q_6, q_1160⟩ pd_X5_isNext rfl ⟨⟨Nat.le_of_ble_eq_true rfl, Nat.le_of_ble_eq_true rfl⟩, rfl, rfl⟩ (Nat.le_of_ble_eq_true rfl) dX5_readItem_110 (fun r34 σ33 => ?_)
            refine go_jn (fun (j46 : Int32 → fh_S → Option (Unit × fh_S)) => ∀ (x35 : Int32) (σ36 : fh_S), fh_Go E M 7 fh_vU 127 [(0, .ref (fh_ad E k1)), (1, .int r4), (2, .int x23), (3, .int x27), (4, .int x31)] [.int x35] σ36 (j46 x35 σ36)) ?_ (fun j46 hj46 => ?_)
            · intro x35 σ36
              refine go_istore C [(5, .int x35), (0, .ref (fh_ad E k1)), (1, .int r4), (2, .int x23), (3, .int x27), (4, .int x31)] rfl (by decide) dX5_readItem_127 ?_
              refine go_aload_n C 1 rfl rfl dX5_readItem_129 ?_
              refine go_ldcwS C 25 rfl dX5_readItem_130 ?_
              refine go_callVI C (st := []) [.ref (fh_aK E 25)] (m_X5_isNext E _ hok k1 25 σ36) (fun _ h => fh_ob_ok h) rfl rfl ⟨q_1157, q_1159, qs_59, q_6, q_1160⟩ pd_X5_isNext rfl ⟨⟨Nat.le_of_ble_eq_true rfl, Nat.le_of_ble_eq_true rfl⟩, rfl, rfl⟩ (Nat.le_of_ble_eq_true rfl) dX5_readItem_133 (fun r38 σ37 => ?_)
              refine go_istore C [(6, .int r38), (5, .int x35), (0, .ref (fh_ad E k1)), (1, .int r4), (2, .int x23), (3, .int x27), (4, .int x31)] rfl (by decide) dX5_readItem_136 ?_
              refine go_aload_n C 2 rfl rfl dX5_readItem_138 ?_
              refine go_iload_n C 3 rfl rfl dX5_readItem_139 ?_
              refine go_iload_n C 4 rfl rfl dX5_readItem_140 ?_
              refine go_iload_n C 5 rfl rfl dX5_readItem_141 ?_
              refine go_iload C 0 rfl dX5_readItem_142 ?_
              refine go_jn (fun (j45 : Int32 → fh_S → Option (Unit × fh_S)) => ∀ (x39 : Int32) (σ40 : fh_S), fh_Go E M 7 fh_vU 153 [(5, .int x35), (6, .int r38)] [.int x39, .int x27, .int x23, .int r4, .ref (fh_ad E k1)] σ40 (j45 x39 σ40)) ?_ (fun j45 hj45 => ?_)
              · intro x39 σ40
                refine go_iload C 1 rfl dX5_readItem_153 ?_
                refine go_jn (fun (j44 : Int32 → fh_S → Option (Unit × fh_S)) => ∀ (x41 : Int32) (σ42 : fh_S), fh_Go E M 7 fh_vU 163 [(5, .int x35)] [.int x41, .int x39, .int x27, .int x23, .int r4, .ref (fh_ad E k1)] σ42 (j44 x41 σ42)) ?_ (fun j44 hj44 => ?_)
                · intro x41 σ42
                  refine go_iload C 0 rfl dX5_readItem_163 ?_
                  refine go_callVU C (st := []) [.int r4, .int x23, .int x27, .int x39, .int x41, .int x35] (m_X5_item E _ hok k1 r4 x23 x27 x39 x41 x35 σ42) (fun _ h => fh_ob_ok h) rfl rfl ⟨q_1173, q_1175, qs_62, q_6, q_1176⟩ pd_X5_item rfl ⟨⟨Nat.le_of_ble_eq_true rfl, Nat.le_of_ble_eq_true rfl⟩, rfl, rfl⟩ (Nat.le_of_ble_eq_true rfl) dX5_readItem_165 (fun _ σ43 => ?_)
                  refine go_goto C 215 dX5_readItem_168 rfl ?_
                  exact go_vret C Hr rfl dX5_readItem_215
                refine go_if_eq (tgt := 162) C dX5_readItem_155 rfl (fun _ => ?_) (fun _ => ?_)
                · refine go_iconst C (0 : Int32) dX5_readItem_162 rfl ?_
                  refine go_lv [0] (lv' := [(5, .int x35)]) rfl ?_
                  exact hj44 ((0 : Int32)) σ40
                · refine go_iconst C (1 : Int32) dX5_readItem_158 rfl ?_
                  refine go_goto C 163 dX5_readItem_159 rfl ?_
                  refine go_lv [0] (lv' := [(5, .int x35)]) rfl ?_
                  exact hj44 ((1 : Int32)) σ40
              refine go_if_eq (tgt := 151) C dX5_readItem_144 rfl (fun _ => ?_) (fun _ => ?_)
              · refine go_iload C 6 rfl dX5_readItem_151 ?_
                refine go_lv [1, 0] (lv' := [(5, .int x35), (6, .int r38)]) rfl ?_
                exact hj45 x31 σ37
              · refine go_iconst C (0 : Int32) dX5_readItem_147 rfl ?_
                refine go_goto C 153 dX5_readItem_148 rfl ?_
                refine go_lv [1, 0] (lv' := [(5, .int x35), (6, .int r38)]) rfl ?_
                exact hj45 ((0 : Int32)) σ37
            refine go_if_eq (tgt := 126) C dX5_readItem_113 rfl (fun _ => ?_) (fun _ => ?_)
            · refine go_iconst C (0 : Int32) dX5_readItem_126 rfl ?_
              refine go_lv [1, 2, 3, 4, 0] (lv' := [(0, .ref (fh_ad E k1)), (1, .int r4), (2, .int x23), (3, .int x27), (4, .int x31)]) rfl ?_
              exact hj46 ((0 : Int32)) σ33
            · refine go_aload_n C 1 rfl rfl dX5_readItem_116 ?_
              refine go_iconst C (0 : Int32) dX5_readItem_117 rfl ?_
              refine go_bipush C (9 : Int32) dX5_readItem_118 rfl ?_
              refine go_callVI C (st := []) [.int ((0 : Int32)), .int ((9 : Int32))] (m_X5_number E _ hok k1 ((0 : Int32)) ((9 : Int32)) σ33) (fun _ h => fh_ob_ok h) rfl rfl ⟨q_1161, q_1163, qs_60, q_6, q_1164⟩ pd_X5_number rfl ⟨⟨Nat.le_of_ble_eq_true rfl, Nat.le_of_ble_eq_true rfl⟩, rfl, rfl⟩ (Nat.le_of_ble_eq_true rfl) dX5_readItem_120 (fun r48 σ47 => ?_)
              refine go_goto C 127 dX5_readItem_123 rfl ?_
              refine go_lv [1, 2, 3, 4, 0] (lv' := [(0, .ref (fh_ad E k1)), (1, .int r4), (2, .int x23), (3, .int x27), (4, .int x31)]) rfl ?_
              exact hj46 r48 σ47
          refine go_if_eq (tgt := 103) C dX5_readItem_93 rfl (fun _ => ?_) (fun _ => ?_)
          · refine go_iconst C (1 : Int32) dX5_readItem_103 rfl ?_
            refine go_lv [1, 2, 3, 0] (lv' := [(0, .ref (fh_ad E k1)), (1, .int r4), (2, .int x23), (3, .int x27)]) rfl ?_
            exact hj49 ((1 : Int32)) σ29
          · refine go_aload_n C 1 rfl rfl dX5_readItem_96 ?_
            refine go_callVI C (st := []) [] (m_X5_goesTold E _ hok k1 σ29) (fun _ h => fh_ob_ok h) rfl rfl ⟨q_1167, q_1169, qs_61, q_6, q_1170⟩ pd_X5_goesTold rfl ⟨⟨Nat.le_of_ble_eq_true rfl, Nat.le_of_ble_eq_true rfl⟩, rfl, rfl⟩ (Nat.le_of_ble_eq_true rfl) dX5_readItem_97 (fun r51 σ50 => ?_)
            refine go_goto C 104 dX5_readItem_100 rfl ?_
            refine go_lv [1, 2, 3, 0] (lv' := [(0, .ref (fh_ad E k1)), (1, .int r4), (2, .int x23), (3, .int x27)]) rfl ?_
            exact hj49 r51 σ50
        refine go_if_eq (tgt := 84) C dX5_readItem_67 rfl (fun _ => ?_) (fun _ => ?_)
        · refine go_iconst C (-1 : Int32) dX5_readItem_84 rfl ?_
          refine go_lv [1, 2, 0] (lv' := [(0, .ref (fh_ad E k1)), (1, .int r4), (2, .int x23)]) rfl ?_
          exact hj52 ((-1 : Int32)) σ25
        · refine go_aload_n C 1 rfl rfl dX5_readItem_70 ?_
          refine go_iconst C (0 : Int32) dX5_readItem_71 rfl ?_
          refine go_aload_n C 1 rfl rfl dX5_readItem_72 ?_
          refine go_gi (ci := 5) (j := 16) C fh_in5 rfl (by decide) rfl q_762 dX5_readItem_73 (fun v53 => ?_)
          refine go_iconst C (1 : Int32) dX5_readItem_76 rfl ?_
          refine go_isub C dX5_readItem_77 ?_
          refine go_callVI C (st := []) [.int ((0 : Int32)), .int (v53 - ((1 : Int32)))] (m_X5_number E _ hok k1 ((0 : Int32)) (v53 - ((1 : Int32))) σ25) (fun _ h => fh_ob_ok h) rfl rfl ⟨q_1161, q_1163, qs_60, q_6, q_1164⟩ pd_X5_number rfl ⟨⟨Nat.le_of_ble_eq_true rfl, Nat.le_of_ble_eq_true rfl⟩, rfl, rfl⟩ (Nat.le_of_ble_eq_true rfl) dX5_readItem_78 (fun r55 σ54 => ?_)
          refine go_goto C 85 dX5_readItem_81 rfl ?_
          refine go_lv [1, 2, 0] (lv' := [(0, .ref (fh_ad E k1)), (1, .int r4), (2, .int x23)]) rfl ?_
          exact hj52 r55 σ54
      refine go_if_eq (tgt := 58) C dX5_readItem_44 rfl (fun _ => ?_) (fun _ => ?_)
      · refine go_iconst C (0 : Int32) dX5_readItem_58 rfl ?_
        exact hj56 ((0 : Int32)) σ21
      · refine go_aload_n C 0 rfl rfl dX5_readItem_47 ?_
        refine go_iconst C (0 : Int32) dX5_readItem_48 rfl ?_
        refine go_sipush C (719 : Int32) dX5_readItem_49 rfl ?_
        refine go_callVI C (st := []) [.int ((0 : Int32)), .int ((719 : Int32))] (m_X5_number E _ hok k1 ((0 : Int32)) ((719 : Int32)) σ21) (fun _ h => fh_ob_ok h) rfl rfl ⟨q_1161, q_1163, qs_60, q_6, q_1164⟩ pd_X5_number rfl ⟨⟨Nat.le_of_ble_eq_true rfl, Nat.le_of_ble_eq_true rfl⟩, rfl, rfl⟩ (Nat.le_of_ble_eq_true rfl) dX5_readItem_52 (fun r58 σ57 => ?_)
        refine go_goto C 59 dX5_readItem_55 rfl ?_
        exact hj56 r58 σ57
    refine go_icmp_ge (tgt := 23) C dX5_readItem_16 rfl (fun _ => ?_) (fun _ => ?_)
    · refine go_iconst C (0 : Int32) dX5_readItem_23 rfl ?_
      refine go_lv [1, 0] (lv' := [(0, .ref (fh_ad E k1)), (1, .int r4)]) rfl ?_
      exact hj59 ((0 : Int32)) σ3
    · refine go_iconst C (1 : Int32) dX5_readItem_19 rfl ?_
      refine go_goto C 24 dX5_readItem_20 rfl ?_
      refine go_lv [1, 0] (lv' := [(0, .ref (fh_ad E k1)), (1, .int r4)]) rfl ?_
      exact hj59 ((1 : Int32)) σ3
theorem m_X5_readItem (E : fh_E) (l : Launch) (hok : fh_ok E) (k1 : Nat) (σ2 : fh_S) : fh_Met E l yX5_readItem cX5_readItem 7 (none) rm_X5_readItem fh_vU [.ref (fh_ad E k1)] σ2 (f_X5_readItem k1 σ2) := fh_met hok (by decide +kernel) (Nat.le_of_ble_eq_true rfl) (fun M _ C Hr => g_X5_readItem C Hr k1 σ2)
