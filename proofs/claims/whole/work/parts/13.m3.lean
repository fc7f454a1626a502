def f_X4_most (k1 : Nat) (σ2 : fh_S) : Option (Int32 × fh_S) := fh_ob 4 k1 ((fh_gr 4 k1 0).bind fun k3 => fh_cb (f_X0_alikeSet k3 σ2) fun r5 σ4 => if r5 = 0 then fh_cb (f_X4_tell k1 ((-1000004 : Int32)) σ4) fun r12 σ11 => some (r12, σ11) else (fh_gr 4 k1 0).bind fun k6 => (fh_gr 0 k6 1).bind fun k7 => fh_cb (f_X4_lowestOf r5 σ4) fun r9 σ8 => (fh_ld σ8 k7 r9).bind fun v10 => some (v10, σ8))
abbrev rm_X4_most : Room := { frames := 2, cells := 0, slots := 0, locals := 49 }
theorem pd_X4_most : yX4_most.cls ≠ "java/lang/invoke/MethodHandle" ∧ yX4_most.cls ≠ "java/lang/invoke/VarHandle" ∧ (parseMethodDescriptor yX4_most.desc).map (fun d => d.parameters.length) = some 0 := by decide +kernel
theorem dX4_most_0 : decode cX4_most 0 = .ok (.aload_n 0, 1) := by decide +kernel
theorem dX4_most_1 : decode cX4_most 1 = .ok (.getfield 12, 3) := by decide +kernel
theorem dX4_most_4 : decode cX4_most 4 = .ok (.invokevirtual 128, 3) := by decide +kernel
theorem dX4_most_7 : decode cX4_most 7 = .ok (.istore_n 1, 1) := by decide +kernel
theorem dX4_most_8 : decode cX4_most 8 = .ok (.iload_n 1, 1) := by decide +kernel
theorem dX4_most_9 : decode cX4_most 9 = .ok (.ifCond .ne 12, 3) := by decide +kernel
theorem dX4_most_12 : decode cX4_most 12 = .ok (.aload_n 0, 1) := by decide +kernel
theorem dX4_most_13 : decode cX4_most 13 = .ok (.ldc 154, 2) := by decide +kernel
theorem dX4_most_15 : decode cX4_most 15 = .ok (.invokevirtual 58, 3) := by decide +kernel
theorem dX4_most_18 : decode cX4_most 18 = .ok (.goto 15, 3) := by decide +kernel
theorem dX4_most_21 : decode cX4_most 21 = .ok (.aload_n 0, 1) := by decide +kernel
theorem dX4_most_22 : decode cX4_most 22 = .ok (.getfield 12, 3) := by decide +kernel
theorem dX4_most_25 : decode cX4_most 25 = .ok (.getfield 92, 3) := by decide +kernel
theorem dX4_most_28 : decode cX4_most 28 = .ok (.iload_n 1, 1) := by decide +kernel
theorem dX4_most_29 : decode cX4_most 29 = .ok (.invokestatic 184, 3) := by decide +kernel
theorem dX4_most_32 : decode cX4_most 32 = .ok (.iaload, 1) := by decide +kernel
theorem dX4_most_33 : decode cX4_most 33 = .ok (.ireturn, 1) := by decide +kernel
set_option maxHeartbeats 4000000 in
set_option maxRecDepth 100000 in
theorem g_X4_most {E : fh_E} {M : fh_M} (C : fh_Cx E M cX4_most 2 RX4 ((some FieldType.int)) rm_X4_most) (Hr : fh_Rt E M) (k1 : Nat) (σ2 : fh_S) : fh_Go E M 2 fh_vI 0 [(0, .ref (fh_ad E k1))] [] σ2 (f_X4_most k1 σ2) := by
  have hok := fh_cok C
  refine go_ob ?_
  refine go_aload_n C 0 rfl rfl dX4_most_0 ?_
  refine go_gr (ci := 4) (j := 0) C fh_in4 rfl (by decide) rfl q_138 dX4_most_1 (fun k3 => ?_)
  refine go_callVI C (st := []) [] (m_X0_alikeSet E _ hok k3 σ2) (fun _ h => fh_ob_ok h) rfl rfl ⟨q_302, q_303, q_304, q_2, q_305⟩ pd_X0_alikeSet rfl ⟨⟨Nat.le_of_ble_eq_true rfl, Nat.le_of_ble_eq_true rfl⟩, rfl, rfl⟩ (Nat.le_of_ble_eq_true rfl) dX4_most_4 (fun r5 σ4 => ?_)
  refine go_istore_n C [(1, .int r5), (0, .ref (fh_ad E k1))] rfl rfl (by decide) dX4_most_7 ?_
  refine go_iload_n C 0 rfl rfl dX4_most_8 ?_
  refine go_if_ne (tgt := 21) C dX4_most_9 rfl (fun _ => ?_) (fun _ => ?_)
  · refine go_aload_n C 1 rfl rfl dX4_most_21 ?_
    refine go_gr (ci := 4) (j := 0) C fh_in4 rfl (by decide) rfl q_138 dX4_most_22 (fun k6 => ?_)
    refine go_gr (ci := 0) (j := 1) C fh_in0 rfl (by decide) rfl q_32 dX4_most_25 (fun k7 => ?_)
    refine go_iload_n C 0 rfl rfl dX4_most_28 ?_
    refine go_callSI C (st := [.ref (fh_ad E k7)]) [.int r5] (m_X4_lowestOf E _ hok r5 σ4) rfl ⟨q_433, q_340, q_1, q_341⟩ pd_X4_lowestOf rfl ⟨⟨Nat.le_of_ble_eq_true rfl, Nat.le_of_ble_eq_true rfl⟩, rfl, rfl⟩ (Nat.le_of_ble_eq_true rfl) dX4_most_29 (fun r9 σ8 => ?_)
    refine go_iald C dX4_most_32 (fun v10 => ?_)
    exact go_iret C Hr rfl dX4_most_33
  · refine go_aload_n C 1 rfl rfl dX4_most_12 ?_
    refine go_ldc C q_369 dX4_most_13 ?_
    refine go_callVI C (st := []) [.int ((-1000004 : Int32))] (m_X4_tell E _ hok k1 ((-1000004 : Int32)) σ4) (fun _ h => fh_ob_ok h) rfl rfl ⟨q_176, q_178, qs_0, q_1, q_179⟩ pd_X4_tell rfl ⟨⟨Nat.le_of_ble_eq_true rfl, Nat.le_of_ble_eq_true rfl⟩, rfl, rfl⟩ (Nat.le_of_ble_eq_true rfl) dX4_most_15 (fun r12 σ11 => ?_)
    refine go_goto C 33 dX4_most_18 rfl ?_
    exact go_iret C Hr rfl dX4_most_33
theorem m_X4_most (E : fh_E) (l : Launch) (hok : fh_ok E) (k1 : Nat) (σ2 : fh_S) : fh_Met E l yX4_most cX4_most 2 ((some FieldType.int)) rm_X4_most fh_vI [.ref (fh_ad E k1)] σ2 (f_X4_most k1 σ2) := fh_met hok (by decide +kernel) (Nat.le_of_ble_eq_true rfl) (fun M _ C Hr => g_X4_most C Hr k1 σ2)
def f_X4_jogs (k1 : Nat) (a2 : Int32) (σ3 : fh_S) : Option (Int32 × fh_S) := fh_ob 4 k1 (fh_cb (f_X4_isWithin a2 ((0 : Int32)) ((200 : Int32)) σ3) fun r5 σ4 => if r5 = 0 then fh_cb (f_X4_tell k1 ((-1000001 : Int32)) σ4) fun r15 σ14 => some (r15, σ14) else fh_cb (f_X4_tryTicks k1 a2 σ4) fun _ σ6 => (fh_gr 4 k1 2).bind fun k7 => (fh_gi σ6 0 k7 9).bind fun v8 => (fh_gr 4 k1 2).bind fun k9 => fh_cb (f_X0_alikeSet k9 σ6) fun r11 σ10 => fh_cb (f_J6_bitCount_0f7a4 r11 σ10) fun r13 σ12 => some (v8 - r13, σ12))
abbrev rm_X4_jogs : Room := { frames := 6, cells := 0, slots := 0, locals := 132 }
theorem pd_X4_jogs : yX4_jogs.cls ≠ "java/lang/invoke/MethodHandle" ∧ yX4_jogs.cls ≠ "java/lang/invoke/VarHandle" ∧ (parseMethodDescriptor yX4_jogs.desc).map (fun d => d.parameters.length) = some 1 := by decide +kernel
theorem dX4_jogs_0 : decode cX4_jogs 0 = .ok (.iload_n 1, 1) := by decide +kernel
theorem dX4_jogs_1 : decode cX4_jogs 1 = .ok (.iconst 0, 1) := by decide +kernel
theorem dX4_jogs_2 : decode cX4_jogs 2 = .ok (.sipush 200, 3) := by decide +kernel
theorem dX4_jogs_5 : decode cX4_jogs 5 = .ok (.invokestatic 84, 3) := by decide +kernel
theorem dX4_jogs_8 : decode cX4_jogs 8 = .ok (.ifCond .ne 10, 3) := by decide +kernel
theorem dX4_jogs_11 : decode cX4_jogs 11 = .ok (.aload_n 0, 1) := by decide +kernel
theorem dX4_jogs_12 : decode cX4_jogs 12 = .ok (.ldc 57, 2) := by decide +kernel
theorem dX4_jogs_14 : decode cX4_jogs 14 = .ok (.invokevirtual 58, 3) := by decide +kernel
theorem dX4_jogs_17 : decode cX4_jogs 17 = .ok (.ireturn, 1) := by decide +kernel
theorem dX4_jogs_18 : decode cX4_jogs 18 = .ok (.aload_n 0, 1) := by decide +kernel
theorem dX4_jogs_19 : decode cX4_jogs 19 = .ok (.iload_n 1, 1) := by decide +kernel
theorem dX4_jogs_20 : decode cX4_jogs 20 = .ok (.invokevirtual 155, 3) := by decide +kernel
theorem dX4_jogs_23 : decode cX4_jogs 23 = .ok (.aload_n 0, 1) := by decide +kernel
theorem dX4_jogs_24 : decode cX4_jogs 24 = .ok (.getfield 19, 3) := by decide +kernel
theorem dX4_jogs_27 : decode cX4_jogs 27 = .ok (.getfield 136, 3) := by decide +kernel
theorem dX4_jogs_30 : decode cX4_jogs 30 = .ok (.aload_n 0, 1) := by decide +kernel
theorem dX4_jogs_31 : decode cX4_jogs 31 = .ok (.getfield 19, 3) := by decide +kernel
theorem dX4_jogs_34 : decode cX4_jogs 34 = .ok (.invokevirtual 128, 3) := by decide +kernel
theorem dX4_jogs_37 : decode cX4_jogs 37 = .ok (.invokestatic 131, 3) := by decide +kernel
theorem dX4_jogs_40 : decode cX4_jogs 40 = .ok (.isub, 1) := by decide +kernel
theorem dX4_jogs_41 : decode cX4_jogs 41 = .ok (.ireturn, 1) := by decide +kernel
set_option maxHeartbeats 4000000 in
set_option maxRecDepth 100000 in
theorem g_X4_jogs {E : fh_E} {M : fh_M} (C : fh_Cx E M cX4_jogs 2 RX4 ((some FieldType.int)) rm_X4_jogs) (Hr : fh_Rt E M) (k1 : Nat) (a2 : Int32) (σ3 : fh_S) : fh_Go E M 2 fh_vI 0 [(0, .ref (fh_ad E k1)), (1, .int a2)] [] σ3 (f_X4_jogs k1 a2 σ3) := by
  have hok := fh_cok C
  refine go_ob ?_
  refine go_iload_n C 1 rfl rfl dX4_jogs_0 ?_
  refine go_iconst C (0 : Int32) dX4_jogs_1 rfl ?_
  refine go_sipush C (200 : Int32) dX4_jogs_2 rfl ?_
  refine go_callSI C (st := []) [.int a2, .int ((0 : Int32)), .int ((200 : Int32))] (m_X4_isWithin E _ hok a2 ((0 : Int32)) ((200 : Int32)) σ3) rfl ⟨q_172, q_173, q_1, q_174⟩ pd_X4_isWithin rfl ⟨⟨Nat.le_of_ble_eq_true rfl, Nat.le_of_ble_eq_true rfl⟩, rfl, rfl⟩ (Nat.le_of_ble_eq_true rfl) dX4_jogs_5 (fun r5 σ4 => ?_)
  refine go_if_ne (tgt := 18) C dX4_jogs_8 rfl (fun _ => ?_) (fun _ => ?_)
  · refine go_aload_n C 0 rfl rfl dX4_jogs_18 ?_
    refine go_iload_n C 1 rfl rfl dX4_jogs_19 ?_
    refine go_callVU C (st := []) [.int a2] (m_X4_tryTicks E _ hok k1 a2 σ4) (fun _ h => fh_ob_ok h) rfl rfl ⟨q_374, q_376, qs_3, q_1, q_377⟩ pd_X4_tryTicks rfl ⟨⟨Nat.le_of_ble_eq_true rfl, Nat.le_of_ble_eq_true rfl⟩, rfl, rfl⟩ (Nat.le_of_ble_eq_true rfl) dX4_jogs_20 (fun _ σ6 => ?_)
    refine go_aload_n C 0 rfl rfl dX4_jogs_23 ?_
    refine go_gr (ci := 4) (j := 2) C fh_in4 rfl (by decide) rfl q_140 dX4_jogs_24 (fun k7 => ?_)
    refine go_gi (ci := 0) (j := 9) C fh_in0 rfl (by decide) rfl q_48 dX4_jogs_27 (fun v8 => ?_)
    refine go_aload_n C 0 rfl rfl dX4_jogs_30 ?_
    refine go_gr (ci := 4) (j := 2) C fh_in4 rfl (by decide) rfl q_140 dX4_jogs_31 (fun k9 => ?_)
    refine go_callVI C (st := [.int v8]) [] (m_X0_alikeSet E _ hok k9 σ6) (fun _ h => fh_ob_ok h) rfl rfl ⟨q_302, q_303, q_304, q_2, q_305⟩ pd_X0_alikeSet rfl ⟨⟨Nat.le_of_ble_eq_true rfl, Nat.le_of_ble_eq_true rfl⟩, rfl, rfl⟩ (Nat.le_of_ble_eq_true rfl) dX4_jogs_34 (fun r11 σ10 => ?_)
    refine go_callSI C (st := [.int v8]) [.int r11] (m_J6_bitCount_0f7a4 E _ hok r11 σ10) rfl ⟨q_312, q_307, q_8, q_308⟩ pd_J6_bitCount_0f7a4 rfl ⟨⟨Nat.le_of_ble_eq_true rfl, Nat.le_of_ble_eq_true rfl⟩, rfl, rfl⟩ (Nat.le_of_ble_eq_true rfl) dX4_jogs_37 (fun r13 σ12 => ?_)
    refine go_isub C dX4_jogs_40 ?_
    exact go_iret C Hr rfl dX4_jogs_41
  · refine go_aload_n C 0 rfl rfl dX4_jogs_11 ?_
    refine go_ldc C q_175 dX4_jogs_12 ?_
    refine go_callVI C (st := []) [.int ((-1000001 : Int32))] (m_X4_tell E _ hok k1 ((-1000001 : Int32)) σ4) (fun _ h => fh_ob_ok h) rfl rfl ⟨q_176, q_178, qs_0, q_1, q_179⟩ pd_X4_tell rfl ⟨⟨Nat.le_of_ble_eq_true rfl, Nat.le_of_ble_eq_true rfl⟩, rfl, rfl⟩ (Nat.le_of_ble_eq_true rfl) dX4_jogs_14 (fun r15 σ14 => ?_)
    exact go_iret C Hr rfl dX4_jogs_17
theorem m_X4_jogs (E : fh_E) (l : Launch) (hok : fh_ok E) (k1 : Nat) (a2 : Int32) (σ3 : fh_S) : fh_Met E l yX4_jogs cX4_jogs 2 ((some FieldType.int)) rm_X4_jogs fh_vI [.ref (fh_ad E k1), .int a2] σ3 (f_X4_jogs k1 a2 σ3) := fh_met hok (by decide +kernel) (Nat.le_of_ble_eq_true rfl) (fun M _ C Hr => g_X4_jogs C Hr k1 a2 σ3)
def f_X4_right (k1 : Nat) (a2 : Int32) (σ3 : fh_S) : Option (Int32 × fh_S) := fh_ob 4 k1 (fh_cb (f_X4_isWithin a2 ((0 : Int32)) ((200 : Int32)) σ3) fun r5 σ4 => if r5 = 0 then fh_cb (f_X4_tell k1 ((-1000001 : Int32)) σ4) fun r11 σ10 => some (r11, σ10) else fh_cb (f_X4_tryTicks k1 a2 σ4) fun _ σ6 => (fh_gr 4 k1 2).bind fun k7 => fh_cb (f_X0_alikeSet k7 σ6) fun r9 σ8 => some (r9, σ8))
abbrev rm_X4_right : Room := { frames := 6, cells := 0, slots := 0, locals := 132 }
theorem pd_X4_right : yX4_right.cls ≠ "java/lang/invoke/MethodHandle" ∧ yX4_right.cls ≠ "java/lang/invoke/VarHandle" ∧ (parseMethodDescriptor yX4_right.desc).map (fun d => d.parameters.length) = some 1 := by decide +kernel
theorem dX4_right_0 : decode cX4_right 0 = .ok (.iload_n 1, 1) := by decide +kernel
theorem dX4_right_1 : decode cX4_right 1 = .ok (.iconst 0, 1) := by decide +kernel
theorem dX4_right_2 : decode cX4_right 2 = .ok (.sipush 200, 3) := by decide +kernel
theorem dX4_right_5 : decode cX4_right 5 = .ok (.invokestatic 84, 3) := by decide +kernel
theorem dX4_right_8 : decode cX4_right 8 = .ok (.ifCond .ne 10, 3) := by decide +kernel
theorem dX4_right_11 : decode cX4_right 11 = .ok (.aload_n 0, 1) := by decide +kernel
theorem dX4_right_12 : decode cX4_right 12 = .ok (.ldc 57, 2) := by decide +kernel
theorem dX4_right_14 : decode cX4_right 14 = .ok (.invokevirtual 58, 3) := by decide +kernel
theorem dX4_right_17 : decode cX4_right 17 = .ok (.ireturn, 1) := by decide +kernel
theorem dX4_right_18 : decode cX4_right 18 = .ok (.aload_n 0, 1) := by decide +kernel
theorem dX4_right_19 : decode cX4_right 19 = .ok (.iload_n 1, 1) := by decide +kernel
theorem dX4_right_20 : decode cX4_right 20 = .ok (.invokevirtual 155, 3) := by decide +kernel
theorem dX4_right_23 : decode cX4_right 23 = .ok (.aload_n 0, 1) := by decide +kernel
theorem dX4_right_24 : decode cX4_right 24 = .ok (.getfield 19, 3) := by decide +kernel
theorem dX4_right_27 : decode cX4_right 27 = .ok (.invokevirtual 128, 3) := by decide +kernel
theorem dX4_right_30 : decode cX4_right 30 = .ok (.ireturn, 1) := by decide +kernel
set_option maxHeartbeats 4000000 in
set_option maxRecDepth 100000 in
theorem g_X4_right {E : fh_E} {M : fh_M} (C : fh_Cx E M cX4_right 2 RX4 ((some FieldType.int)) rm_X4_right) (Hr : fh_Rt E M) (k1 : Nat) (a2 : Int32) (σ3 : fh_S) : fh_Go E M 2 fh_vI 0 [(0, .ref (fh_ad E k1)), (1, .int a2)] [] σ3 (f_X4_right k1 a2 σ3) := by
  have hok := fh_cok C
  refine go_ob ?_
  refine go_iload_n C 1 rfl rfl dX4_right_0 ?_
  refine go_iconst C (0 : Int32) dX4_right_1 rfl ?_
  refine go_sipush C (200 : Int32) dX4_right_2 rfl ?_
  refine go_callSI C (st := []) [.int a2, .int ((0 : Int32)), .int ((200 : Int32))] (m_X4_isWithin E _ hok a2 ((0 : Int32)) ((200 : Int32)) σ3) rfl ⟨q_172, q_173, q_1, q_174⟩ pd_X4_isWithin rfl ⟨⟨Nat.le_of_ble_eq_true rfl, Nat.le_of_ble_eq_true rfl⟩, rfl, rfl⟩ (Nat.le_of_ble_eq_true rfl) dX4_right_5 (fun r5 σ4 => ?_)
  refine go_if_ne (tgt := 18) C dX4_right_8 rfl (fun _ => ?_) (fun _ => ?_)
  · refine go_aload_n C 0 rfl rfl dX4_right_18 ?_
    refine go_iload_n C 1 rfl rfl dX4_right_19 ?_
    refine go_callVU C (st := []) [.int a2] (m_X4_tryTicks E _ hok k1 a2 σ4) (fun _ h => fh_ob_ok h) rfl rfl ⟨q_374, q_376, qs_3, q_1, q_377⟩ pd_X4_tryTicks rfl ⟨⟨Nat.le_of_ble_eq_true rfl, Nat.le_of_ble_eq_true rfl⟩, rfl, rfl⟩ (Nat.le_of_ble_eq_true rfl) dX4_right_20 (fun _ σ6 => ?_)
    refine go_aload_n C 0 rfl rfl dX4_right_23 ?_
    refine go_gr (ci := 4) (j := 2) C fh_in4 rfl (by decide) rfl q_140 dX4_right_24 (fun k7 => ?_)
    refine go_callVI C (st := []) [] (m_X0_alikeSet E _ hok k7 σ6) (fun _ h => fh_ob_ok h) rfl rfl ⟨q_302, q_303, q_304, q_2, q_305⟩ pd_X0_alikeSet rfl ⟨⟨Nat.le_of_ble_eq_true rfl, Nat.le_of_ble_eq_true rfl⟩, rfl, rfl⟩ (Nat.le_of_ble_eq_true rfl) dX4_right_27 (fun r9 σ8 => ?_)
    exact go_iret C Hr rfl dX4_right_30
  · refine go_aload_n C 0 rfl rfl dX4_right_11 ?_
    refine go_ldc C q_175 dX4_right_12 ?_
    refine go_callVI C (st := []) [.int ((-1000001 : Int32))] (m_X4_tell E _ hok k1 ((-1000001 : Int32)) σ4) (fun _ h => fh_ob_ok h) rfl rfl ⟨q_176, q_178, qs_0, q_1, q_179⟩ pd_X4_tell rfl ⟨⟨Nat.le_of_ble_eq_true rfl, Nat.le_of_ble_eq_true rfl⟩, rfl, rfl⟩ (Nat.le_of_ble_eq_true rfl) dX4_right_14 (fun r11 σ10 => ?_)
    exact go_iret C Hr rfl dX4_right_17
theorem m_X4_right (E : fh_E) (l : Launch) (hok : fh_ok E) (k1 : Nat) (a2 : Int32) (σ3 : fh_S) : fh_Met E l yX4_right cX4_right 2 ((some FieldType.int)) rm_X4_right fh_vI [.ref (fh_ad E k1), .int a2] σ3 (f_X4_right k1 a2 σ3) := fh_met hok (by decide +kernel) (Nat.le_of_ble_eq_true rfl) (fun M _ C Hr => g_X4_right C Hr k1 a2 σ3)
def f_X4_isSheet (a1 : Int32) (σ2 : fh_S) : Option (Int32 × fh_S) := fh_cb (f_X4_isWithin a1 ((0 : Int32)) ((3 : Int32)) σ2) fun r4 σ3 => fh_rz r4 σ3
abbrev rm_X4_isSheet : Room := { frames := 1, cells := 0, slots := 0, locals := 22 }
theorem pd_X4_isSheet : yX4_isSheet.cls ≠ "java/lang/invoke/MethodHandle" ∧ yX4_isSheet.cls ≠ "java/lang/invoke/VarHandle" ∧ (parseMethodDescriptor yX4_isSheet.desc).map (fun d => d.parameters.length) = some 1 := by decide +kernel
theorem dX4_isSheet_0 : decode cX4_isSheet 0 = .ok (.iload_n 0, 1) := by decide +kernel
theorem dX4_isSheet_1 : decode cX4_isSheet 1 = .ok (.iconst 0, 1) := by decide +kernel
theorem dX4_isSheet_2 : decode cX4_isSheet 2 = .ok (.iconst 3, 1) := by decide +kernel
theorem dX4_isSheet_3 : decode cX4_isSheet 3 = .ok (.invokestatic 84, 3) := by decide +kernel
theorem dX4_isSheet_6 : decode cX4_isSheet 6 = .ok (.ireturn, 1) := by decide +kernel
set_option maxHeartbeats 4000000 in
set_option maxRecDepth 100000 in
theorem g_X4_isSheet {E : fh_E} {M : fh_M} (C : fh_Cx E M cX4_isSheet 1 RX4 ((some FieldType.boolean)) rm_X4_isSheet) (Hr : fh_Rt E M) (a1 : Int32) (σ2 : fh_S) : fh_Go E M 1 fh_vI 0 [(0, .int a1)] [] σ2 (f_X4_isSheet a1 σ2) := by
  have hok := fh_cok C
  refine go_iload_n C 0 rfl rfl dX4_isSheet_0 ?_
  refine go_iconst C (0 : Int32) dX4_isSheet_1 rfl ?_
  refine go_iconst C (3 : Int32) dX4_isSheet_2 rfl ?_
  refine go_callSI C (st := []) [.int a1, .int ((0 : Int32)), .int ((3 : Int32))] (m_X4_isWithin E _ hok a1 ((0 : Int32)) ((3 : Int32)) σ2) rfl ⟨q_172, q_173, q_1, q_174⟩ pd_X4_isWithin rfl ⟨⟨Nat.le_of_ble_eq_true rfl, Nat.le_of_ble_eq_true rfl⟩, rfl, rfl⟩ (Nat.le_of_ble_eq_true rfl) dX4_isSheet_3 (fun r4 σ3 => ?_)
  exact go_zret C Hr dX4_isSheet_6
theorem m_X4_isSheet (E : fh_E) (l : Launch) (hok : fh_ok E) (a1 : Int32) (σ2 : fh_S) : fh_Met E l yX4_isSheet cX4_isSheet 1 ((some FieldType.boolean)) rm_X4_isSheet fh_vI [.int a1] σ2 (f_X4_isSheet a1 σ2) := fh_met hok (by decide +kernel) (Nat.le_of_ble_eq_true rfl) (fun M _ C Hr => g_X4_isSheet C Hr a1 σ2)
def f_X4_findingOfSheet (k1 : Nat) (a2 : Int32) (σ3 : fh_S) : Option (Int32 × fh_S) := fh_ob 4 k1 (fh_cb (f_X4_isSheet a2 σ3) fun r5 σ4 => if r5 = 0 then some ((-1000001 : Int32), σ4) else (fh_gr 4 k1 5).bind fun k6 => (fh_lr k6 a2).bind fun k7 => fh_cb (f_X2_isMissing k7 σ4) fun r9 σ8 => if r9 = 0 then some ((0 : Int32), σ8) else some ((-1000006 : Int32), σ8))
abbrev rm_X4_findingOfSheet : Room := { frames := 2, cells := 0, slots := 0, locals := 42 }
theorem pd_X4_findingOfSheet : yX4_findingOfSheet.cls ≠ "java/lang/invoke/MethodHandle" ∧ yX4_findingOfSheet.cls ≠ "java/lang/invoke/VarHandle" ∧ (parseMethodDescriptor yX4_findingOfSheet.desc).map (fun d => d.parameters.length) = some 1 := by decide +kernel
theorem dX4_findingOfSheet_0 : decode cX4_findingOfSheet 0 = .ok (.iload_n 1, 1) := by decide +kernel
theorem dX4_findingOfSheet_1 : decode cX4_findingOfSheet 1 = .ok (.invokestatic 232, 3) := by decide +kernel
theorem dX4_findingOfSheet_4 : decode cX4_findingOfSheet 4 = .ok (.ifCond .ne 6, 3) := by decide +kernel
theorem dX4_findingOfSheet_7 : decode cX4_findingOfSheet 7 = .ok (.ldc 57, 2) := by decide +kernel
theorem dX4_findingOfSheet_9 : decode cX4_findingOfSheet 9 = .ok (.ireturn, 1) := by decide +kernel
theorem dX4_findingOfSheet_10 : decode cX4_findingOfSheet 10 = .ok (.aload_n 0, 1) := by decide +kernel
theorem dX4_findingOfSheet_11 : decode cX4_findingOfSheet 11 = .ok (.getfield 40, 3) := by decide +kernel
theorem dX4_findingOfSheet_14 : decode cX4_findingOfSheet 14 = .ok (.iload_n 1, 1) := by decide +kernel
theorem dX4_findingOfSheet_15 : decode cX4_findingOfSheet 15 = .ok (.aaload, 1) := by decide +kernel
theorem dX4_findingOfSheet_16 : decode cX4_findingOfSheet 16 = .ok (.invokevirtual 243, 3) := by decide +kernel
theorem dX4_findingOfSheet_19 : decode cX4_findingOfSheet 19 = .ok (.ifCond .eq 8, 3) := by decide +kernel
theorem dX4_findingOfSheet_22 : decode cX4_findingOfSheet 22 = .ok (.ldc 227, 2) := by decide +kernel
theorem dX4_findingOfSheet_24 : decode cX4_findingOfSheet 24 = .ok (.goto 4, 3) := by decide +kernel
theorem dX4_findingOfSheet_27 : decode cX4_findingOfSheet 27 = .ok (.iconst 0, 1) := by decide +kernel
theorem dX4_findingOfSheet_28 : decode cX4_findingOfSheet 28 = .ok (.ireturn, 1) := by decide +kernel
set_option maxHeartbeats 4000000 in
set_option maxRecDepth 100000 in
theorem g_X4_findingOfSheet {E : fh_E} {M : fh_M} (C : fh_Cx E M cX4_findingOfSheet 2 RX4 ((some FieldType.int)) rm_X4_findingOfSheet) (Hr : fh_Rt E M) (k1 : Nat) (a2 : Int32) (σ3 : fh_S) : fh_Go E M 2 fh_vI 0 [(0, .ref (fh_ad E k1)), (1, .int a2)] [] σ3 (f_X4_findingOfSheet k1 a2 σ3) := by
  have hok := fh_cok C
  refine go_ob ?_
  refine go_iload_n C 1 rfl rfl dX4_findingOfSheet_0 ?_
  refine go_callSI C (st := []) [.int a2] (m_X4_isSheet E _ hok a2 σ3) rfl ⟨q_450, q_451, q_1, q_452⟩ pd_X4_isSheet rfl ⟨⟨Nat.le_of_ble_eq_true rfl, Nat.le_of_ble_eq_true rfl⟩, rfl, rfl⟩ (Nat.le_of_ble_eq_true rfl) dX4_findingOfSheet_1 (fun r5 σ4 => ?_)
  refine go_if_ne (tgt := 10) C dX4_findingOfSheet_4 rfl (fun _ => ?_) (fun _ => ?_)
  · refine go_aload_n C 0 rfl rfl dX4_findingOfSheet_10 ?_
    refine go_gr (ci := 4) (j := 5) C fh_in4 rfl (by decide) rfl q_143 dX4_findingOfSheet_11 (fun k6 => ?_)
    refine go_iload_n C 1 rfl rfl dX4_findingOfSheet_14 ?_
    refine go_aald C dX4_findingOfSheet_15 (fun k7 => ?_)
    refine go_callVI C (st := []) [] (m_X2_isMissing E _ hok k7 σ4) (fun _ h => fh_ob_ok h) rfl rfl ⟨q_453, q_454, q_455, q_5, q_456⟩ pd_X2_isMissing rfl ⟨⟨Nat.le_of_ble_eq_true rfl, Nat.le_of_ble_eq_true rfl⟩, rfl, rfl⟩ (Nat.le_of_ble_eq_true rfl) dX4_findingOfSheet_16 (fun r9 σ8 => ?_)
    refine go_if_eq (tgt := 27) C dX4_findingOfSheet_19 rfl (fun _ => ?_) (fun _ => ?_)
    · refine go_iconst C (0 : Int32) dX4_findingOfSheet_27 rfl ?_
      exact go_iret C Hr rfl dX4_findingOfSheet_28
    · refine go_ldc C q_457 dX4_findingOfSheet_22 ?_
      refine go_goto C 28 dX4_findingOfSheet_24 rfl ?_
      exact go_iret C Hr rfl dX4_findingOfSheet_28
  · refine go_ldc C q_175 dX4_findingOfSheet_7 ?_
    exact go_iret C Hr rfl dX4_findingOfSheet_9
theorem m_X4_findingOfSheet (E : fh_E) (l : Launch) (hok : fh_ok E) (k1 : Nat) (a2 : Int32) (σ3 : fh_S) : fh_Met E l yX4_findingOfSheet cX4_findingOfSheet 2 ((some FieldType.int)) rm_X4_findingOfSheet fh_vI [.ref (fh_ad E k1), .int a2] σ3 (f_X4_findingOfSheet k1 a2 σ3) := fh_met hok (by decide +kernel) (Nat.le_of_ble_eq_true rfl) (fun M _ C Hr => g_X4_findingOfSheet C Hr k1 a2 σ3)
def f_X4_triedShowsAs_J40 (k1 : Nat) (r7 : Int32 → fh_S → Option (Int32 × fh_S)) (x5 : Int32) : fh_S → Option (Int32 × fh_S) := fun σ11 => (fh_gr 4 k1 2).bind fun k12 => fh_cb (f_X0_passTick k12 σ11) fun _ σ13 => r7 (x5 + 1) σ13
def f_X4_triedShowsAs_B2 (k2 : Nat) (k1 : Nat) (a3 : Int32) (r7 : Int32 → fh_S → Option (Int32 × fh_S)) : Int32 → fh_S → Option (Int32 × fh_S) := fun x5 σ6 => (fh_gi σ6 2 k2 2).bind fun v8 => if v8 ≤ x5 then fh_rz ((1 : Int32)) σ6 else (fh_gr 2 k2 0).bind fun k9 => (fh_ld σ6 k9 x5).bind fun v10 => fh_jn (f_X4_triedShowsAs_J40 k1 r7 x5) (fun j14 => if v10 = ((-1 : Int32)) then j14 σ6 else (fh_gr 4 k1 2).bind fun k15 => (fh_gr 0 k15 1).bind fun k16 => (fh_ld σ6 k16 a3).bind fun v17 => if v10 = v17 then j14 σ6 else fh_rz ((0 : Int32)) σ6)
def f_X4_triedShowsAs (k1 : Nat) (k2 : Nat) (a3 : Int32) (σ4 : fh_S) : Option (Int32 × fh_S) := fh_ob 4 k1 (fh_fx (ρ := Int32 → fh_S → Option (Int32 × fh_S)) (fun _ _ => none) (f_X4_triedShowsAs_B2 k2 k1 a3) fh_fu ((0 : Int32)) σ4)
abbrev rm_X4_triedShowsAs : Room := { frames := 4, cells := 0, slots := 0, locals := 89 }
theorem pd_X4_triedShowsAs : yX4_triedShowsAs.cls ≠ "java/lang/invoke/MethodHandle" ∧ yX4_triedShowsAs.cls ≠ "java/lang/invoke/VarHandle" ∧ (parseMethodDescriptor yX4_triedShowsAs.desc).map (fun d => d.parameters.length) = some 2 := by decide +kernel
theorem dX4_triedShowsAs_0 : decode cX4_triedShowsAs 0 = .ok (.iconst 0, 1) := by decide +kernel
theorem dX4_triedShowsAs_1 : decode cX4_triedShowsAs 1 = .ok (.istore_n 3, 1) := by decide +kernel
theorem dX4_triedShowsAs_2 : decode cX4_triedShowsAs 2 = .ok (.iload_n 3, 1) := by decide +kernel
theorem dX4_triedShowsAs_3 : decode cX4_triedShowsAs 3 = .ok (.aload_n 1, 1) := by decide +kernel
theorem dX4_triedShowsAs_4 : decode cX4_triedShowsAs 4 = .ok (.getfield 239, 3) := by decide +kernel
theorem dX4_triedShowsAs_7 : decode cX4_triedShowsAs 7 = .ok (.if_icmp .ge 46, 3) := by decide +kernel
theorem dX4_triedShowsAs_10 : decode cX4_triedShowsAs 10 = .ok (.aload_n 1, 1) := by decide +kernel
theorem dX4_triedShowsAs_11 : decode cX4_triedShowsAs 11 = .ok (.getfield 252, 3) := by decide +kernel
theorem dX4_triedShowsAs_14 : decode cX4_triedShowsAs 14 = .ok (.iload_n 3, 1) := by decide +kernel
theorem dX4_triedShowsAs_15 : decode cX4_triedShowsAs 15 = .ok (.iaload, 1) := by decide +kernel
theorem dX4_triedShowsAs_16 : decode cX4_triedShowsAs 16 = .ok (.istore 4, 2) := by decide +kernel
theorem dX4_triedShowsAs_18 : decode cX4_triedShowsAs 18 = .ok (.iload 4, 2) := by decide +kernel
theorem dX4_triedShowsAs_20 : decode cX4_triedShowsAs 20 = .ok (.iconst (-1), 1) := by decide +kernel
theorem dX4_triedShowsAs_21 : decode cX4_triedShowsAs 21 = .ok (.if_icmp .eq 19, 3) := by decide +kernel
theorem dX4_triedShowsAs_24 : decode cX4_triedShowsAs 24 = .ok (.iload 4, 2) := by decide +kernel
theorem dX4_triedShowsAs_26 : decode cX4_triedShowsAs 26 = .ok (.aload_n 0, 1) := by decide +kernel
theorem dX4_triedShowsAs_27 : decode cX4_triedShowsAs 27 = .ok (.getfield 19, 3) := by decide +kernel
theorem dX4_triedShowsAs_30 : decode cX4_triedShowsAs 30 = .ok (.getfield 92, 3) := by decide +kernel
theorem dX4_triedShowsAs_33 : decode cX4_triedShowsAs 33 = .ok (.iload_n 2, 1) := by decide +kernel
theorem dX4_triedShowsAs_34 : decode cX4_triedShowsAs 34 = .ok (.iaload, 1) := by decide +kernel
theorem dX4_triedShowsAs_35 : decode cX4_triedShowsAs 35 = .ok (.if_icmp .eq 5, 3) := by decide +kernel
theorem dX4_triedShowsAs_38 : decode cX4_triedShowsAs 38 = .ok (.iconst 0, 1) := by decide +kernel
theorem dX4_triedShowsAs_39 : decode cX4_triedShowsAs 39 = .ok (.ireturn, 1) := by decide +kernel
theorem dX4_triedShowsAs_40 : decode cX4_triedShowsAs 40 = .ok (.aload_n 0, 1) := by decide +kernel
theorem dX4_triedShowsAs_41 : decode cX4_triedShowsAs 41 = .ok (.getfield 19, 3) := by decide +kernel
theorem dX4_triedShowsAs_44 : decode cX4_triedShowsAs 44 = .ok (.invokevirtual 165, 3) := by decide +kernel
theorem dX4_triedShowsAs_47 : decode cX4_triedShowsAs 47 = .ok (.iinc 3 1, 3) := by decide +kernel
theorem dX4_triedShowsAs_50 : decode cX4_triedShowsAs 50 = .ok (.goto (-48), 3) := by decide +kernel
theorem dX4_triedShowsAs_53 : decode cX4_triedShowsAs 53 = .ok (.iconst 1, 1) := by decide +kernel
theorem dX4_triedShowsAs_54 : decode cX4_triedShowsAs 54 = .ok (.ireturn, 1) := by decide +kernel
set_option maxHeartbeats 4000000 in
set_option maxRecDepth 100000 in
theorem g_X4_triedShowsAs {E : fh_E} {M : fh_M} (C : fh_Cx E M cX4_triedShowsAs 5 RX4 ((some FieldType.boolean)) rm_X4_triedShowsAs) (Hr : fh_Rt E M) (k1 : Nat) (k2 : Nat) (a3 : Int32) (σ4 : fh_S) : fh_Go E M 5 fh_vI 0 [(0, .ref (fh_ad E k1)), (1, .ref (fh_ad E k2)), (2, .int a3)] [] σ4 (f_X4_triedShowsAs k1 k2 a3 σ4) := by
  have hok := fh_cok C
  refine go_ob ?_
  refine go_iconst C (0 : Int32) dX4_triedShowsAs_0 rfl ?_
  refine go_istore_n C [(3, .int ((0 : Int32))), (0, .ref (fh_ad E k1)), (1, .ref (fh_ad E k2)), (2, .int a3)] rfl rfl (by decide) dX4_triedShowsAs_1 ?_
  refine go_lv [1, 2, 3, 0] (lv' := [(0, .ref (fh_ad E k1)), (1, .ref (fh_ad E k2)), (2, .int a3), (3, .int ((0 : Int32)))]) rfl ?_
  refine go_fx (fun (r7 : Int32 → fh_S → Option (Int32 × fh_S)) => ∀ (x5 : Int32) (σ6 : fh_S), fh_Go E M 5 fh_vI 2 [(0, .ref (fh_ad E k1)), (1, .ref (fh_ad E k2)), (2, .int a3), (3, .int x5)] [] σ6 (r7 x5 σ6)) ?_ ?_ fh_fu ((0 : Int32)) σ4
  · intro x5 σ6
    exact go_none
  · intro r7 hr7 x5 σ6
    refine go_iload_n C 3 rfl rfl dX4_triedShowsAs_2 ?_
    refine go_aload_n C 1 rfl rfl dX4_triedShowsAs_3 ?_
    refine go_gi (ci := 2) (j := 2) C fh_in2 rfl (by decide) rfl q_130 dX4_triedShowsAs_4 (fun v8 => ?_)
    refine go_icmp_ge (tgt := 53) C dX4_triedShowsAs_7 rfl (fun _ => ?_) (fun _ => ?_)
    · refine go_iconst C (1 : Int32) dX4_triedShowsAs_53 rfl ?_
      exact go_zret C Hr dX4_triedShowsAs_54
    · refine go_aload_n C 1 rfl rfl dX4_triedShowsAs_10 ?_
      refine go_gr (ci := 2) (j := 0) C fh_in2 rfl (by decide) rfl q_126 dX4_triedShowsAs_11 (fun k9 => ?_)
      refine go_iload_n C 3 rfl rfl dX4_triedShowsAs_14 ?_
      refine go_iald C dX4_triedShowsAs_15 (fun v10 => ?_)
      refine go_istore C [(4, .int v10), (0, .ref (fh_ad E k1)), (1, .ref (fh_ad E k2)), (2, .int a3), (3, .int x5)] rfl (by decide) dX4_triedShowsAs_16 ?_
      refine go_iload C 0 rfl dX4_triedShowsAs_18 ?_
      refine go_iconst C (-1 : Int32) dX4_triedShowsAs_20 rfl ?_
      refine go_jn (fun (j14 : fh_S → Option (Int32 × fh_S)) => ∀ (σ11 : fh_S), fh_Go E M 5 fh_vI 40 [(0, .ref (fh_ad E k1)), (1, .ref (fh_ad E k2)), (2, .int a3), (3, .int x5)] [] σ11 (j14 σ11)) ?_ (fun j14 hj14 => ?_)
      · intro σ11
        refine go_aload_n C 0 rfl rfl dX4_triedShowsAs_40 ?_
        refine go_gr (ci := 4) (j := 2) C fh_in4 rfl (by decide) rfl q_140 dX4_triedShowsAs_41 (fun k12 => ?_)
        refine go_callVU C (st := []) [] (m_X0_passTick E _ hok k12 σ11) (fun _ h => fh_ob_ok h) rfl rfl ⟨q_394, q_272, q_273, q_2, q_274⟩ pd_X0_passTick rfl ⟨⟨Nat.le_of_ble_eq_true rfl, Nat.le_of_ble_eq_true rfl⟩, rfl, rfl⟩ (Nat.le_of_ble_eq_true rfl) dX4_triedShowsAs_44 (fun _ σ13 => ?_)
        refine go_iinc C (x5 + 1) 3 [(3, .int (x5 + 1)), (0, .ref (fh_ad E k1)), (1, .ref (fh_ad E k2)), (2, .int a3)] rfl rfl rfl (by decide) dX4_triedShowsAs_47 ?_
        refine go_goto C 2 dX4_triedShowsAs_50 rfl ?_
        refine go_lv [1, 2, 3, 0] (lv' := [(0, .ref (fh_ad E k1)), (1, .ref (fh_ad E k2)), (2, .int a3), (3, .int (x5 + 1))]) rfl ?_
        exact hr7 (x5 + 1) σ13
      refine go_icmp_eq (tgt := 40) C dX4_triedShowsAs_21 rfl (fun _ => ?_) (fun _ => ?_)
      · refine go_lv [1, 2, 3, 4] (lv' := [(0, .ref (fh_ad E k1)), (1, .ref (fh_ad E k2)), (2, .int a3), (3, .int x5)]) rfl ?_
        exact hj14 σ6
      · refine go_iload C 0 rfl dX4_triedShowsAs_24 ?_
        refine go_aload_n C 1 rfl rfl dX4_triedShowsAs_26 ?_
        refine go_gr (ci := 4) (j := 2) C fh_in4 rfl (by decide) rfl q_140 dX4_triedShowsAs_27 (fun k15 => ?_)
        refine go_gr (ci := 0) (j := 1) C fh_in0 rfl (by decide) rfl q_32 dX4_triedShowsAs_30 (fun k16 => ?_)
        refine go_iload_n C 3 rfl rfl dX4_triedShowsAs_33 ?_
        refine go_iald C dX4_triedShowsAs_34 (fun v17 => ?_)
        refine go_icmp_eq (tgt := 40) C dX4_triedShowsAs_35 rfl (fun _ => ?_) (fun _ => ?_)
        · refine go_lv [1, 2, 3, 4] (lv' := [(0, .ref (fh_ad E k1)), (1, .ref (fh_ad E k2)), (2, .int a3), (3, .int x5)]) rfl ?_
          exact hj14 σ6
        · refine go_iconst C (0 : Int32) dX4_triedShowsAs_38 rfl ?_
          exact go_zret C Hr dX4_triedShowsAs_39
theorem m_X4_triedShowsAs (E : fh_E) (l : Launch) (hok : fh_ok E) (k1 : Nat) (k2 : Nat) (a3 : Int32) (σ4 : fh_S) : fh_Met E l yX4_triedShowsAs cX4_triedShowsAs 5 ((some FieldType.boolean)) rm_X4_triedShowsAs fh_vI [.ref (fh_ad E k1), .ref (fh_ad E k2), .int a3] σ4 (f_X4_triedShowsAs k1 k2 a3 σ4) := fh_met hok (by decide +kernel) (Nat.le_of_ble_eq_true rfl) (fun M _ C Hr => g_X4_triedShowsAs C Hr k1 k2 a3 σ4)
def f_X4_masters_J97 (r12 : Int32 → Int32 → fh_S → Option (Int32 × fh_S)) (x10 : Int32) : Int32 → fh_S → Option (Int32 × fh_S) := fun x25 σ26 => r12 x25 (x10 + 1) σ26
def f_X4_masters_B40 (k1 : Nat) (a3 : Int32) (a2 : Int32) (r12 : Int32 → Int32 → fh_S → Option (Int32 × fh_S)) : Int32 → Int32 → fh_S → Option (Int32 × fh_S) := fun x9 x10 σ11 => (fh_gr 4 k1 0).bind fun k13 => (fh_gi σ11 0 k13 9).bind fun v14 => if v14 ≤ x10 then some (x9, σ11) else (fh_gr 4 k1 2).bind fun k15 => (fh_gr 4 k1 0).bind fun k16 => fh_cb (f_X0_become k15 k16 σ11) fun _ σ17 => (fh_gr 4 k1 2).bind fun k18 => (fh_gr 0 k18 2).bind fun k19 => (fh_st σ17 k19 a3 x10).bind fun σ20 => (fh_gr 4 k1 5).bind fun k21 => (fh_lr k21 a2).bind fun k22 => fh_cb (f_X4_triedShowsAs k1 k22 a3 σ20) fun r24 σ23 => fh_jn (f_X4_masters_J97 r12 x10) (fun j27 => if r24 = 0 then j27 x9 σ23 else j27 (x9 ||| (((1 : Int32)) <<< (x10 &&& 31))) σ23)
def f_X4_masters_J24 (k1 : Nat) (a3 : Int32) (a2 : Int32) : Int32 → fh_S → Option (Int32 × fh_S) := fun x7 σ8 => if x7 = 0 then fh_fx (ρ := Int32 → Int32 → fh_S → Option (Int32 × fh_S)) (fun _ _ _ => none) (f_X4_masters_B40 k1 a3 a2) fh_fu ((0 : Int32)) ((0 : Int32)) σ8 else fh_cb (f_X4_tell k1 x7 σ8) fun r29 σ28 => some (r29, σ28)
def f_X4_masters (k1 : Nat) (a2 : Int32) (a3 : Int32) (σ4 : fh_S) : Option (Int32 × fh_S) := fh_ob 4 k1 (fh_cb (f_X4_findingOfSheet k1 a2 σ4) fun r6 σ5 => fh_jn (f_X4_masters_J24 k1 a3 a2) (fun j30 => if r6 = 0 then (fh_gr 4 k1 0).bind fun k31 => fh_cb (f_X0_has k31 a3 σ5) fun r33 σ32 => if r33 = 0 then j30 ((-1000001 : Int32)) σ32 else j30 r6 σ32 else j30 r6 σ5))
abbrev rm_X4_masters : Room := { frames := 5, cells := 0, slots := 0, locals := 113 }
theorem pd_X4_masters : yX4_masters.cls ≠ "java/lang/invoke/MethodHandle" ∧ yX4_masters.cls ≠ "java/lang/invoke/VarHandle" ∧ (parseMethodDescriptor yX4_masters.desc).map (fun d => d.parameters.length) = some 2 := by decide +kernel
theorem dX4_masters_0 : decode cX4_masters 0 = .ok (.aload_n 0, 1) := by decide +kernel
theorem dX4_masters_1 : decode cX4_masters 1 = .ok (.iload_n 1, 1) := by decide +kernel
theorem dX4_masters_2 : decode cX4_masters 2 = .ok (.invokevirtual 187, 3) := by decide +kernel
theorem dX4_masters_5 : decode cX4_masters 5 = .ok (.istore_n 3, 1) := by decide +kernel
theorem dX4_masters_6 : decode cX4_masters 6 = .ok (.iload_n 3, 1) := by decide +kernel
theorem dX4_masters_7 : decode cX4_masters 7 = .ok (.ifCond .ne 17, 3) := by decide +kernel
theorem dX4_masters_10 : decode cX4_masters 10 = .ok (.aload_n 0, 1) := by decide +kernel
theorem dX4_masters_11 : decode cX4_masters 11 = .ok (.getfield 12, 3) := by decide +kernel
theorem dX4_masters_14 : decode cX4_masters 14 = .ok (.iload_n 2, 1) := by decide +kernel
theorem dX4_masters_15 : decode cX4_masters 15 = .ok (.invokevirtual 70, 3) := by decide +kernel
theorem dX4_masters_18 : decode cX4_masters 18 = .ok (.ifCond .ne 6, 3) := by decide +kernel
theorem dX4_masters_21 : decode cX4_masters 21 = .ok (.ldc 57, 2) := by decide +kernel
theorem dX4_masters_23 : decode cX4_masters 23 = .ok (.istore_n 3, 1) := by decide +kernel
theorem dX4_masters_24 : decode cX4_masters 24 = .ok (.iload_n 3, 1) := by decide +kernel
theorem dX4_masters_25 : decode cX4_masters 25 = .ok (.ifCond .eq 9, 3) := by decide +kernel
theorem dX4_masters_28 : decode cX4_masters 28 = .ok (.aload_n 0, 1) := by decide +kernel
theorem dX4_masters_29 : decode cX4_masters 29 = .ok (.iload_n 3, 1) := by decide +kernel
theorem dX4_masters_30 : decode cX4_masters 30 = .ok (.invokevirtual 58, 3) := by decide +kernel
theorem dX4_masters_33 : decode cX4_masters 33 = .ok (.ireturn, 1) := by decide +kernel
theorem dX4_masters_34 : decode cX4_masters 34 = .ok (.iconst 0, 1) := by decide +kernel
theorem dX4_masters_35 : decode cX4_masters 35 = .ok (.istore 4, 2) := by decide +kernel
theorem dX4_masters_37 : decode cX4_masters 37 = .ok (.iconst 0, 1) := by decide +kernel
theorem dX4_masters_38 : decode cX4_masters 38 = .ok (.istore 5, 2) := by decide +kernel
theorem dX4_masters_40 : decode cX4_masters 40 = .ok (.iload 5, 2) := by decide +kernel
theorem dX4_masters_42 : decode cX4_masters 42 = .ok (.aload_n 0, 1) := by decide +kernel
theorem dX4_masters_43 : decode cX4_masters 43 = .ok (.getfield 12, 3) := by decide +kernel
theorem dX4_masters_46 : decode cX4_masters 46 = .ok (.getfield 136, 3) := by decide +kernel
theorem dX4_masters_49 : decode cX4_masters 49 = .ok (.if_icmp .ge 54, 3) := by decide +kernel
theorem dX4_masters_52 : decode cX4_masters 52 = .ok (.aload_n 0, 1) := by decide +kernel
theorem dX4_masters_53 : decode cX4_masters 53 = .ok (.getfield 19, 3) := by decide +kernel
theorem dX4_masters_56 : decode cX4_masters 56 = .ok (.aload_n 0, 1) := by decide +kernel
theorem dX4_masters_57 : decode cX4_masters 57 = .ok (.getfield 12, 3) := by decide +kernel
theorem dX4_masters_60 : decode cX4_masters 60 = .ok (.invokevirtual 161, 3) := by decide +kernel
theorem dX4_masters_63 : decode cX4_masters 63 = .ok (.aload_n 0, 1) := by decide +kernel
theorem dX4_masters_64 : decode cX4_masters 64 = .ok (.getfield 19, 3) := by decide +kernel
theorem dX4_masters_67 : decode cX4_masters 67 = .ok (.getfield 190, 3) := by decide +kernel
theorem dX4_masters_70 : decode cX4_masters 70 = .ok (.iload_n 2, 1) := by decide +kernel
theorem dX4_masters_71 : decode cX4_masters 71 = .ok (.iload 5, 2) := by decide +kernel
theorem dX4_masters_73 : decode cX4_masters 73 = .ok (.iastore, 1) := by decide +kernel
theorem dX4_masters_74 : decode cX4_masters 74 = .ok (.aload_n 0, 1) := by decide +kernel
theorem dX4_masters_75 : decode cX4_masters 75 = .ok (.aload_n 0, 1) := by decide +kernel
theorem dX4_masters_76 : decode cX4_masters 76 = .ok (.getfield 40, 3) := by decide +kernel
theorem dX4_masters_79 : decode cX4_masters 79 = .ok (.iload_n 1, 1) := by decide +kernel
theorem dX4_masters_80 : decode cX4_masters 80 = .ok (.aaload, 1) := by decide +kernel
theorem dX4_masters_81 : decode cX4_masters 81 = .ok (.iload_n 2, 1) := by decide +kernel
theorem dX4_masters_82 : decode cX4_masters 82 = .ok (.invokevirtual 193, 3) := by decide +kernel
theorem dX4_masters_85 : decode cX4_masters 85 = .ok (.ifCond .eq 12, 3) := by decide +kernel
theorem dX4_masters_88 : decode cX4_masters 88 = .ok (.iload 4, 2) := by decide +kernel
theorem dX4_masters_90 : decode cX4_masters 90 = .ok (.iconst 1, 1) := by decide +kernel
theorem dX4_masters_91 : decode cX4_masters 91 = .ok (.iload 5, 2) := by decide +kernel
theorem dX4_masters_93 : decode cX4_masters 93 = .ok (.ishl, 1) := by decide +kernel
theorem dX4_masters_94 : decode cX4_masters 94 = .ok (.ior, 1) := by decide +kernel
theorem dX4_masters_95 : decode cX4_masters 95 = .ok (.istore 4, 2) := by decide +kernel
theorem dX4_masters_97 : decode cX4_masters 97 = .ok (.iinc 5 1, 3) := by decide +kernel
theorem dX4_masters_100 : decode cX4_masters 100 = .ok (.goto (-60), 3) := by decide +kernel
theorem dX4_masters_103 : decode cX4_masters 103 = .ok (.iload 4, 2) := by decide +kernel
theorem dX4_masters_105 : decode cX4_masters 105 = .ok (.ireturn, 1) := by decide +kernel
set_option maxHeartbeats 4000000 in
set_option maxRecDepth 100000 in
theorem g_X4_masters {E : fh_E} {M : fh_M} (C : fh_Cx E M cX4_masters 6 RX4 ((some FieldType.int)) rm_X4_masters) (Hr : fh_Rt E M) (k1 : Nat) (a2 : Int32) (a3 : Int32) (σ4 : fh_S) : fh_Go E M 6 fh_vI 0 [(0, .ref (fh_ad E k1)), (1, .int a2), (2, .int a3)] [] σ4 (f_X4_masters k1 a2 a3 σ4) := by
  have hok := fh_cok C
  refine go_ob ?_
  refine go_aload_n C 0 rfl rfl dX4_masters_0 ?_
  refine go_iload_n C 1 rfl rfl dX4_masters_1 ?_
  refine go_callVI C (st := []) [.int a2] (m_X4_findingOfSheet E _ hok k1 a2 σ4) (fun _ h => fh_ob_ok h) rfl rfl ⟨q_446, q_448, qs_5, q_1, q_449⟩ pd_X4_findingOfSheet rfl ⟨⟨Nat.le_of_ble_eq_true rfl, Nat.le_of_ble_eq_true rfl⟩, rfl, rfl⟩ (Nat.le_of_ble_eq_true rfl) dX4_masters_2 (fun r6 σ5 => ?_)
  refine go_istore_n C [(3, .int r6), (0, .ref (fh_ad E k1)), (1, .int a2), (2, .int a3)] rfl rfl (by decide) dX4_masters_5 ?_
  refine go_iload_n C 0 rfl rfl dX4_masters_6 ?_
  refine go_jn (fun (j30 : Int32 → fh_S → Option (Int32 × fh_S)) => ∀ (x7 : Int32) (σ8 : fh_S), fh_Go E M 6 fh_vI 24 [(0, .ref (fh_ad E k1)), (1, .int a2), (2, .int a3), (3, .int x7)] [] σ8 (j30 x7 σ8)) ?_ (fun j30 hj30 => ?_)
  · intro x7 σ8
    refine go_iload_n C 3 rfl rfl dX4_masters_24 ?_
    refine go_if_eq (tgt := 34) C dX4_masters_25 rfl (fun _ => ?_) (fun _ => ?_)
    · refine go_iconst C (0 : Int32) dX4_masters_34 rfl ?_
      refine go_istore C [(4, .int ((0 : Int32))), (0, .ref (fh_ad E k1)), (1, .int a2), (2, .int a3), (3, .int x7)] rfl (by decide) dX4_masters_35 ?_
      refine go_iconst C (0 : Int32) dX4_masters_37 rfl ?_
      refine go_istore C [(5, .int ((0 : Int32))), (4, .int ((0 : Int32))), (0, .ref (fh_ad E k1)), (1, .int a2), (2, .int a3), (3, .int x7)] rfl (by decide) dX4_masters_38 ?_
      refine go_lv [2, 3, 4, 1, 0] (lv' := [(0, .ref (fh_ad E k1)), (1, .int a2), (2, .int a3), (4, .int ((0 : Int32))), (5, .int ((0 : Int32)))]) rfl ?_
      refine go_fx (fun (r12 : Int32 → Int32 → fh_S → Option (Int32 × fh_S)) => ∀ (x9 : Int32) (x10 : Int32) (σ11 : fh_S), fh_Go E M 6 fh_vI 40 [(0, .ref (fh_ad E k1)), (1, .int a2), (2, .int a3), (4, .int x9), (5, .int x10)] [] σ11 (r12 x9 x10 σ11)) ?_ ?_ fh_fu ((0 : Int32)) ((0 : Int32)) σ8
      · intro x9 x10 σ11
        exact go_none
      · intro r12 hr12 x9 x10 σ11
        refine go_iload C 4 rfl dX4_masters_40 ?_
        refine go_aload_n C 0 rfl rfl dX4_masters_42 ?_
        refine go_gr (ci := 4) (j := 0) C fh_in4 rfl (by decide) rfl q_138 dX4_masters_43 (fun k13 => ?_)
        refine go_gi (ci := 0) (j := 9) C fh_in0 rfl (by decide) rfl q_48 dX4_masters_46 (fun v14 => ?_)
        refine go_icmp_ge (tgt := 103) C dX4_masters_49 rfl (fun _ => ?_) (fun _ => ?_)
        · refine go_iload C 3 rfl dX4_masters_103 ?_
          exact go_iret C Hr rfl dX4_masters_105
        · refine go_aload_n C 0 rfl rfl dX4_masters_52 ?_
          refine go_gr (ci := 4) (j := 2) C fh_in4 rfl (by decide) rfl q_140 dX4_masters_53 (fun k15 => ?_)
          refine go_aload_n C 0 rfl rfl dX4_masters_56 ?_
          refine go_gr (ci := 4) (j := 0) C fh_in4 rfl (by decide) rfl q_138 dX4_masters_57 (fun k16 => ?_)
          refine go_callVU C (st := []) [.ref (fh_ad E k16)] (m_X0_become E _ hok k15 k16 σ11) (fun _ h => fh_ob_ok h) rfl rfl ⟨q_378, q_379, q_380, q_2, q_381⟩ pd_X0_become rfl ⟨⟨Nat.le_of_ble_eq_true rfl, Nat.le_of_ble_eq_true rfl⟩, rfl, rfl⟩ (Nat.le_of_ble_eq_true rfl) dX4_masters_60 (fun _ σ17 => ?_)
          refine go_aload_n C 0 rfl rfl dX4_masters_63 ?_
          refine go_gr (ci := 4) (j := 2) C fh_in4 rfl (by decide) rfl q_140 dX4_masters_64 (fun k18 => ?_)
          refine go_gr (ci := 0) (j := 2) C fh_in0 rfl (by decide) rfl q_35 dX4_masters_67 (fun k19 => ?_)
          refine go_iload_n C 2 rfl rfl dX4_masters_70 ?_
          refine go_iload C 4 rfl dX4_masters_71 ?_
          refine go_iast C dX4_masters_73 (fun σ20 => ?_)
          refine go_aload_n C 0 rfl rfl dX4_masters_74 ?_
          refine go_aload_n C 0 rfl rfl dX4_masters_75 ?_
          refine go_gr (ci := 4) (j := 5) C fh_in4 rfl (by decide) rfl q_143 dX4_masters_76 (fun k21 => ?_)
          refine go_iload_n C 1 rfl rfl dX4_masters_79 ?_
          refine go_aald C dX4_masters_80 (fun k22 => ?_)
          refine go_iload_n C 2 rfl rfl dX4_masters_81 ?_
          refine go_callVI C (st := []) [.ref (fh_ad E k22), .int a3] (m_X4_triedShowsAs E _ hok k1 k22 a3 σ20) (fun _ h => fh_ob_ok h) rfl rfl ⟨q_458, q_460, qs_6, q_1, q_461⟩ pd_X4_triedShowsAs rfl ⟨⟨Nat.le_of_ble_eq_true rfl, Nat.le_of_ble_eq_true rfl⟩, rfl, rfl⟩ (Nat.le_of_ble_eq_true rfl) dX4_masters_82 (fun r24 σ23 => ?_)
          refine go_jn (fun (j27 : Int32 → fh_S → Option (Int32 × fh_S)) => ∀ (x25 : Int32) (σ26 : fh_S), fh_Go E M 6 fh_vI 97 [(0, .ref (fh_ad E k1)), (1, .int a2), (2, .int a3), (4, .int x25), (5, .int x10)] [] σ26 (j27 x25 σ26)) ?_ (fun j27 hj27 => ?_)
          · intro x25 σ26
            refine go_iinc C (x10 + 1) 4 [(5, .int (x10 + 1)), (0, .ref (fh_ad E k1)), (1, .int a2), (2, .int a3), (4, .int x25)] rfl rfl rfl (by decide) dX4_masters_97 ?_
            refine go_goto C 40 dX4_masters_100 rfl ?_
            refine go_lv [1, 2, 3, 4, 0] (lv' := [(0, .ref (fh_ad E k1)), (1, .int a2), (2, .int a3), (4, .int x25), (5, .int (x10 + 1))]) rfl ?_
            exact hr12 x25 (x10 + 1) σ26
          refine go_if_eq (tgt := 97) C dX4_masters_85 rfl (fun _ => ?_) (fun _ => ?_)
          · exact hj27 x9 σ23
          · refine go_iload C 3 rfl dX4_masters_88 ?_
            refine go_iconst C (1 : Int32) dX4_masters_90 rfl ?_
            refine go_iload C 4 rfl dX4_masters_91 ?_
            refine go_ishl C dX4_masters_93 ?_
            refine go_ior C dX4_masters_94 ?_
            refine go_istore C [(4, .int (x9 ||| (((1 : Int32)) <<< (x10 &&& 31)))), (0, .ref (fh_ad E k1)), (1, .int a2), (2, .int a3), (5, .int x10)] rfl (by decide) dX4_masters_95 ?_
            refine go_lv [1, 2, 3, 0, 4] (lv' := [(0, .ref (fh_ad E k1)), (1, .int a2), (2, .int a3), (4, .int (x9 ||| (((1 : Int32)) <<< (x10 &&& 31)))), (5, .int x10)]) rfl ?_
            exact hj27 (x9 ||| (((1 : Int32)) <<< (x10 &&& 31))) σ23
    · refine go_aload_n C 0 rfl rfl dX4_masters_28 ?_
      refine go_iload_n C 3 rfl rfl dX4_masters_29 ?_
      refine go_callVI C (st := []) [.int x7] (m_X4_tell E _ hok k1 x7 σ8) (fun _ h => fh_ob_ok h) rfl rfl ⟨q_176, q_178, qs_0, q_1, q_179⟩ pd_X4_tell rfl ⟨⟨Nat.le_of_ble_eq_true rfl, Nat.le_of_ble_eq_true rfl⟩, rfl, rfl⟩ (Nat.le_of_ble_eq_true rfl) dX4_masters_30 (fun r29 σ28 => ?_)
      exact go_iret C Hr rfl dX4_masters_33
  refine go_if_ne (tgt := 24) C dX4_masters_7 rfl (fun _ => ?_) (fun _ => ?_)
  · refine go_lv [1, 2, 3, 0] (lv' := [(0, .ref (fh_ad E k1)), (1, .int a2), (2, .int a3), (3, .int r6)]) rfl ?_
    exact hj30 r6 σ5
  · refine go_aload_n C 1 rfl rfl dX4_masters_10 ?_
    refine go_gr (ci := 4) (j := 0) C fh_in4 rfl (by decide) rfl q_138 dX4_masters_11 (fun k31 => ?_)
    refine go_iload_n C 3 rfl rfl dX4_masters_14 ?_
    refine go_callVI C (st := []) [.int a3] (m_X0_has E _ hok k31 a3 σ5) (fun _ h => fh_ob_ok h) rfl rfl ⟨q_196, q_197, q_198, q_2, q_199⟩ pd_X0_has rfl ⟨⟨Nat.le_of_ble_eq_true rfl, Nat.le_of_ble_eq_true rfl⟩, rfl, rfl⟩ (Nat.le_of_ble_eq_true rfl) dX4_masters_15 (fun r33 σ32 => ?_)
    refine go_if_ne (tgt := 24) C dX4_masters_18 rfl (fun _ => ?_) (fun _ => ?_)
    · refine go_lv [1, 2, 3, 0] (lv' := [(0, .ref (fh_ad E k1)), (1, .int a2), (2, .int a3), (3, .int r6)]) rfl ?_
      exact hj30 r6 σ32
    · refine go_ldc C q_175 dX4_masters_21 ?_
      refine go_istore_n C [(3, .int ((-1000001 : Int32))), (0, .ref (fh_ad E k1)), (1, .int a2), (2, .int a3)] rfl rfl (by decide) dX4_masters_23 ?_
      refine go_lv [1, 2, 3, 0] (lv' := [(0, .ref (fh_ad E k1)), (1, .int a2), (2, .int a3), (3, .int ((-1000001 : Int32)))]) rfl ?_
      exact hj30 ((-1000001 : Int32)) σ32
theorem m_X4_masters (E : fh_E) (l : Launch) (hok : fh_ok E) (k1 : Nat) (a2 : Int32) (a3 : Int32) (σ4 : fh_S) : fh_Met E l yX4_masters cX4_masters 6 ((some FieldType.int)) rm_X4_masters fh_vI [.ref (fh_ad E k1), .int a2, .int a3] σ4 (f_X4_masters k1 a2 a3 σ4) := fh_met hok (by decide +kernel) (Nat.le_of_ble_eq_true rfl) (fun M _ C Hr => g_X4_masters C Hr k1 a2 a3 σ4)
def f_X4_kinds_J94 (r12 : Int32 → Int32 → fh_S → Option (Int32 × fh_S)) (x10 : Int32) : Int32 → fh_S → Option (Int32 × fh_S) := fun x23 σ24 => r12 x23 (x10 + 1) σ24
def f_X4_kinds_B40 (k1 : Nat) (a3 : Int32) (a2 : Int32) (r12 : Int32 → Int32 → fh_S → Option (Int32 × fh_S)) : Int32 → Int32 → fh_S → Option (Int32 × fh_S) := fun x9 x10 σ11 => if ((7 : Int32)) ≤ x10 then some (x9, σ11) else (fh_gr 4 k1 2).bind fun k13 => (fh_gr 4 k1 0).bind fun k14 => fh_cb (f_X0_become k13 k14 σ11) fun _ σ15 => (fh_gr 4 k1 2).bind fun k16 => (fh_gr 0 k16 0).bind fun k17 => (fh_st σ15 k17 a3 x10).bind fun σ18 => (fh_gr 4 k1 5).bind fun k19 => (fh_lr k19 a2).bind fun k20 => fh_cb (f_X4_triedShowsAs k1 k20 a3 σ18) fun r22 σ21 => fh_jn (f_X4_kinds_J94 r12 x10) (fun j25 => if r22 = 0 then j25 x9 σ21 else j25 (x9 ||| (((1 : Int32)) <<< (x10 &&& 31))) σ21)
def f_X4_kinds_J24 (k1 : Nat) (a3 : Int32) (a2 : Int32) : Int32 → fh_S → Option (Int32 × fh_S) := fun x7 σ8 => if x7 = 0 then fh_fx (ρ := Int32 → Int32 → fh_S → Option (Int32 × fh_S)) (fun _ _ _ => none) (f_X4_kinds_B40 k1 a3 a2) fh_fu ((0 : Int32)) ((0 : Int32)) σ8 else fh_cb (f_X4_tell k1 x7 σ8) fun r27 σ26 => some (r27, σ26)
def f_X4_kinds (k1 : Nat) (a2 : Int32) (a3 : Int32) (σ4 : fh_S) : Option (Int32 × fh_S) := fh_ob 4 k1 (fh_cb (f_X4_findingOfSheet k1 a2 σ4) fun r6 σ5 => fh_jn (f_X4_kinds_J24 k1 a3 a2) (fun j28 => if r6 = 0 then (fh_gr 4 k1 0).bind fun k29 => fh_cb (f_X0_has k29 a3 σ5) fun r31 σ30 => if r31 = 0 then j28 ((-1000001 : Int32)) σ30 else j28 r6 σ30 else j28 r6 σ5))
abbrev rm_X4_kinds : Room := { frames := 5, cells := 0, slots := 0, locals := 113 }
theorem pd_X4_kinds : yX4_kinds.cls ≠ "java/lang/invoke/MethodHandle" ∧ yX4_kinds.cls ≠ "java/lang/invoke/VarHandle" ∧ (parseMethodDescriptor yX4_kinds.desc).map (fun d => d.parameters.length) = some 2 := by decide +kernel
theorem dX4_kinds_0 : decode cX4_kinds 0 = .ok (.aload_n 0, 1) := by decide +kernel
theorem dX4_kinds_1 : decode cX4_kinds 1 = .ok (.iload_n 1, 1) := by decide +kernel
theorem dX4_kinds_2 : decode cX4_kinds 2 = .ok (.invokevirtual 187, 3) := by decide +kernel
theorem dX4_kinds_5 : decode cX4_kinds 5 = .ok (.istore_n 3, 1) := by decide +kernel
theorem dX4_kinds_6 : decode cX4_kinds 6 = .ok (.iload_n 3, 1) := by decide +kernel
theorem dX4_kinds_7 : decode cX4_kinds 7 = .ok (.ifCond .ne 17, 3) := by decide +kernel
theorem dX4_kinds_10 : decode cX4_kinds 10 = .ok (.aload_n 0, 1) := by decide +kernel
theorem dX4_kinds_11 : decode cX4_kinds 11 = .ok (.getfield 12, 3) := by decide +kernel
theorem dX4_kinds_14 : decode cX4_kinds 14 = .ok (.iload_n 2, 1) := by decide +kernel
theorem dX4_kinds_15 : decode cX4_kinds 15 = .ok (.invokevirtual 70, 3) := by decide +kernel
theorem dX4_kinds_18 : decode cX4_kinds 18 = .ok (.ifCond .ne 6, 3) := by decide +kernel
theorem dX4_kinds_21 : decode cX4_kinds 21 = .ok (.ldc 57, 2) := by decide +kernel
theorem dX4_kinds_23 : decode cX4_kinds 23 = .ok (.istore_n 3, 1) := by decide +kernel
theorem dX4_kinds_24 : decode cX4_kinds 24 = .ok (.iload_n 3, 1) := by decide +kernel
theorem dX4_kinds_25 : decode cX4_kinds 25 = .ok (.ifCond .eq 9, 3) := by decide +kernel
theorem dX4_kinds_28 : decode cX4_kinds 28 = .ok (.aload_n 0, 1) := by decide +kernel
theorem dX4_kinds_29 : decode cX4_kinds 29 = .ok (.iload_n 3, 1) := by decide +kernel
theorem dX4_kinds_30 : decode cX4_kinds 30 = .ok (.invokevirtual 58, 3) := by decide +kernel
theorem dX4_kinds_33 : decode cX4_kinds 33 = .ok (.ireturn, 1) := by decide +kernel
theorem dX4_kinds_34 : decode cX4_kinds 34 = .ok (.iconst 0, 1) := by decide +kernel
theorem dX4_kinds_35 : decode cX4_kinds 35 = .ok (.istore 4, 2) := by decide +kernel
theorem dX4_kinds_37 : decode cX4_kinds 37 = .ok (.iconst 0, 1) := by decide +kernel
theorem dX4_kinds_38 : decode cX4_kinds 38 = .ok (.istore 5, 2) := by decide +kernel
theorem dX4_kinds_40 : decode cX4_kinds 40 = .ok (.iload 5, 2) := by decide +kernel
theorem dX4_kinds_42 : decode cX4_kinds 42 = .ok (.getstatic 174, 3) := by decide +kernel
theorem dX4_kinds_45 : decode cX4_kinds 45 = .ok (.arraylength, 1) := by decide +kernel
theorem dX4_kinds_46 : decode cX4_kinds 46 = .ok (.if_icmp .ge 54, 3) := by decide +kernel
theorem dX4_kinds_49 : decode cX4_kinds 49 = .ok (.aload_n 0, 1) := by decide +kernel
theorem dX4_kinds_50 : decode cX4_kinds 50 = .ok (.getfield 19, 3) := by decide +kernel
theorem dX4_kinds_53 : decode cX4_kinds 53 = .ok (.aload_n 0, 1) := by decide +kernel
theorem dX4_kinds_54 : decode cX4_kinds 54 = .ok (.getfield 12, 3) := by decide +kernel
theorem dX4_kinds_57 : decode cX4_kinds 57 = .ok (.invokevirtual 161, 3) := by decide +kernel
theorem dX4_kinds_60 : decode cX4_kinds 60 = .ok (.aload_n 0, 1) := by decide +kernel
theorem dX4_kinds_61 : decode cX4_kinds 61 = .ok (.getfield 19, 3) := by decide +kernel
theorem dX4_kinds_64 : decode cX4_kinds 64 = .ok (.getfield 197, 3) := by decide +kernel
theorem dX4_kinds_67 : decode cX4_kinds 67 = .ok (.iload_n 2, 1) := by decide +kernel
theorem dX4_kinds_68 : decode cX4_kinds 68 = .ok (.iload 5, 2) := by decide +kernel
theorem dX4_kinds_70 : decode cX4_kinds 70 = .ok (.iastore, 1) := by decide +kernel
theorem dX4_kinds_71 : decode cX4_kinds 71 = .ok (.aload_n 0, 1) := by decide +kernel
theorem dX4_kinds_72 : decode cX4_kinds 72 = .ok (.aload_n 0, 1) := by decide +kernel
theorem dX4_kinds_73 : decode cX4_kinds 73 = .ok (.getfield 40, 3) := by decide +kernel
theorem dX4_kinds_76 : decode cX4_kinds 76 = .ok (.iload_n 1, 1) := by decide +kernel
theorem dX4_kinds_77 : decode cX4_kinds 77 = .ok (.aaload, 1) := by decide +kernel
theorem dX4_kinds_78 : decode cX4_kinds 78 = .ok (.iload_n 2, 1) := by decide +kernel
theorem dX4_kinds_79 : decode cX4_kinds 79 = .ok (.invokevirtual 193, 3) := by decide +kernel
theorem dX4_kinds_82 : decode cX4_kinds 82 = .ok (.ifCond .eq 12, 3) := by decide +kernel
theorem dX4_kinds_85 : decode cX4_kinds 85 = .ok (.iload 4, 2) := by decide +kernel
theorem dX4_kinds_87 : decode cX4_kinds 87 = .ok (.iconst 1, 1) := by decide +kernel
theorem dX4_kinds_88 : decode cX4_kinds 88 = .ok (.iload 5, 2) := by decide +kernel
theorem dX4_kinds_90 : decode cX4_kinds 90 = .ok (.ishl, 1) := by decide +kernel
theorem dX4_kinds_91 : decode cX4_kinds 91 = .ok (.ior, 1) := by decide +kernel
theorem dX4_kinds_92 : decode cX4_kinds 92 = .ok (.istore 4, 2) := by decide +kernel
theorem dX4_kinds_94 : decode cX4_kinds 94 = .ok (.iinc 5 1, 3) := by decide +kernel
theorem dX4_kinds_97 : decode cX4_kinds 97 = .ok (.goto (-57), 3) := by decide +kernel
theorem dX4_kinds_100 : decode cX4_kinds 100 = .ok (.iload 4, 2) := by decide +kernel
theorem dX4_kinds_102 : decode cX4_kinds 102 = .ok (.ireturn, 1) := by decide +kernel
set_option maxHeartbeats 4000000 in
set_option maxRecDepth 100000 in
theorem g_X4_kinds {E : fh_E} {M : fh_M} (C : fh_Cx E M cX4_kinds 6 RX4 ((some FieldType.int)) rm_X4_kinds) (Hr : fh_Rt E M) (k1 : Nat) (a2 : Int32) (a3 : Int32) (σ4 : fh_S) : fh_Go E M 6 fh_vI 0 [(0, .ref (fh_ad E k1)), (1, .int a2), (2, .int a3)] [] σ4 (f_X4_kinds k1 a2 a3 σ4) := by
  have hok := fh_cok C
  refine go_ob ?_
  refine go_aload_n C 0 rfl rfl dX4_kinds_0 ?_
  refine go_iload_n C 1 rfl rfl dX4_kinds_1 ?_
  refine go_callVI C (st := []) [.int a2] (m_X4_findingOfSheet E _ hok k1 a2 σ4) (fun _ h => fh_ob_ok h) rfl rfl ⟨q_446, q_448, qs_5, q_1, q_449⟩ pd_X4_findingOfSheet rfl ⟨⟨Nat.le_of_ble_eq_true rfl, Nat.le_of_ble_eq_true rfl⟩, rfl, rfl⟩ (Nat.le_of_ble_eq_true rfl) dX4_kinds_2 (fun r6 σ5 => ?_)
  refine go_istore_n C [(3, .int r6), (0, .ref (fh_ad E k1)), (1, .int a2), (2, .int a3)] rfl rfl (by decide) dX4_kinds_5 ?_
  refine go_iload_n C 0 rfl rfl dX4_kinds_6 ?_
  refine go_jn (fun (j28 : Int32 → fh_S → Option (Int32 × fh_S)) => ∀ (x7 : Int32) (σ8 : fh_S), fh_Go E M 6 fh_vI 24 [(0, .ref (fh_ad E k1)), (1, .int a2), (2, .int a3), (3, .int x7)] [] σ8 (j28 x7 σ8)) ?_ (fun j28 hj28 => ?_)
  · intro x7 σ8
    refine go_iload_n C 3 rfl rfl dX4_kinds_24 ?_
    refine go_if_eq (tgt := 34) C dX4_kinds_25 rfl (fun _ => ?_) (fun _ => ?_)
    · refine go_iconst C (0 : Int32) dX4_kinds_34 rfl ?_
      refine go_istore C [(4, .int ((0 : Int32))), (0, .ref (fh_ad E k1)), (1, .int a2), (2, .int a3), (3, .int x7)] rfl (by decide) dX4_kinds_35 ?_
      refine go_iconst C (0 : Int32) dX4_kinds_37 rfl ?_
      refine go_istore C [(5, .int ((0 : Int32))), (4, .int ((0 : Int32))), (0, .ref (fh_ad E k1)), (1, .int a2), (2, .int a3), (3, .int x7)] rfl (by decide) dX4_kinds_38 ?_
      refine go_lv [2, 3, 4, 1, 0] (lv' := [(0, .ref (fh_ad E k1)), (1, .int a2), (2, .int a3), (4, .int ((0 : Int32))), (5, .int ((0 : Int32)))]) rfl ?_
      refine go_fx (fun (r12 : Int32 → Int32 → fh_S → Option (Int32 × fh_S)) => ∀ (x9 : Int32) (x10 : Int32) (σ11 : fh_S), fh_Go E M 6 fh_vI 40 [(0, .ref (fh_ad E k1)), (1, .int a2), (2, .int a3), (4, .int x9), (5, .int x10)] [] σ11 (r12 x9 x10 σ11)) ?_ ?_ fh_fu ((0 : Int32)) ((0 : Int32)) σ8
      · intro x9 x10 σ11
        exact go_none
      · intro r12 hr12 x9 x10 σ11
        refine go_iload C 4 rfl dX4_kinds_40 ?_
        refine go_tu C q_170 dX4_kinds_42 ?_
        refine go_tl C dX4_kinds_45 ?_
        refine go_icmp_ge (tgt := 100) C dX4_kinds_46 rfl (fun _ => ?_) (fun _ => ?_)
        · refine go_iload C 3 rfl dX4_kinds_100 ?_
          exact go_iret C Hr rfl dX4_kinds_102
        · refine go_aload_n C 0 rfl rfl dX4_kinds_49 ?_
          refine go_gr (ci := 4) (j := 2) C fh_in4 rfl (by decide) rfl q_140 dX4_kinds_50 (fun k13 => ?_)
          refine go_aload_n C 0 rfl rfl dX4_kinds_53 ?_
          refine go_gr (ci := 4) (j := 0) C fh_in4 rfl (by decide) rfl q_138 dX4_kinds_54 (fun k14 => ?_)
          refine go_callVU C (st := []) [.ref (fh_ad E k14)] (m_X0_become E _ hok k13 k14 σ11) (fun _ h => fh_ob_ok h) rfl rfl ⟨q_378, q_379, q_380, q_2, q_381⟩ pd_X0_become rfl ⟨⟨Nat.le_of_ble_eq_true rfl, Nat.le_of_ble_eq_true rfl⟩, rfl, rfl⟩ (Nat.le_of_ble_eq_true rfl) dX4_kinds_57 (fun _ σ15 => ?_)
          refine go_aload_n C 0 rfl rfl dX4_kinds_60 ?_
          refine go_gr (ci := 4) (j := 2) C fh_in4 rfl (by decide) rfl q_140 dX4_kinds_61 (fun k16 => ?_)
          refine go_gr (ci := 0) (j := 0) C fh_in0 rfl (by decide) rfl q_29 dX4_kinds_64 (fun k17 => ?_)
          refine go_iload_n C 2 rfl rfl dX4_kinds_67 ?_
          refine go_iload C 4 rfl dX4_kinds_68 ?_
          refine go_iast C dX4_kinds_70 (fun σ18 => ?_)
          refine go_aload_n C 0 rfl rfl dX4_kinds_71 ?_
          refine go_aload_n C 0 rfl rfl dX4_kinds_72 ?_
          refine go_gr (ci := 4) (j := 5) C fh_in4 rfl (by decide) rfl q_143 dX4_kinds_73 (fun k19 => ?_)
          refine go_iload_n C 1 rfl rfl dX4_kinds_76 ?_
          refine go_aald C dX4_kinds_77 (fun k20 => ?_)
          refine go_iload_n C 2 rfl rfl dX4_kinds_78 ?_
          refine go_callVI C (st := []) [.ref (fh_ad E k20), .int a3] (m_X4_triedShowsAs E _ hok k1 k20 a3 σ18) (fun _ h => fh_ob_ok h) rfl rfl ⟨q_458, q_460, qs_6, q_1, q_461⟩ pd_X4_triedShowsAs rfl ⟨⟨Nat.le_of_ble_eq_true rfl, Nat.le_of_ble_eq_true rfl⟩, rfl, rfl⟩ (Nat.le_of_ble_eq_true rfl) dX4_kinds_79 (fun r22 σ21 => ?_)
          refine go_jn (fun (j25 : Int32 → fh_S → Option (Int32 × fh_S)) => ∀ (x23 : Int32) (σ24 : fh_S), fh_Go E M 6 fh_vI 94 [(0, .ref (fh_ad E k1)), (1, .int a2), (2, .int a3), (4, .int x23), (5, .int x10)] [] σ24 (j25 x23 σ24)) ?_ (fun j25 hj25 => ?_)
          · intro x23 σ24
            refine go_iinc C (x10 + 1) 4 [(5, .int (x10 + 1)), (0, .ref (fh_ad E k1)), (1, .int a2), (2, .int a3), (4, .int x23)] rfl rfl rfl (by decide) dX4_kinds_94 ?_
            refine go_goto C 40 dX4_kinds_97 rfl ?_
            refine go_lv [1, 2, 3, 4, 0] (lv' := [(0, .ref (fh_ad E k1)), (1, .int a2), (2, .int a3), (4, .int x23), (5, .int (x10 + 1))]) rfl ?_
            exact hr12 x23 (x10 + 1) σ24
          refine go_if_eq (tgt := 94) C dX4_kinds_82 rfl (fun _ => ?_) (fun _ => ?_)
          · exact hj25 x9 σ21
          · refine go_iload C 3 rfl dX4_kinds_85 ?_
            refine go_iconst C (1 : Int32) dX4_kinds_87 rfl ?_
            refine go_iload C 4 rfl dX4_kinds_88 ?_
            refine go_ishl C dX4_kinds_90 ?_
            refine go_ior C dX4_kinds_91 ?_
            refine go_istore C [(4, .int (x9 ||| (((1 : Int32)) <<< (x10 &&& 31)))), (0, .ref (fh_ad E k1)), (1, .int a2), (2, .int a3), (5, .int x10)] rfl (by decide) dX4_kinds_92 ?_
            refine go_lv [1, 2, 3, 0, 4] (lv' := [(0, .ref (fh_ad E k1)), (1, .int a2), (2, .int a3), (4, .int (x9 ||| (((1 : Int32)) <<< (x10 &&& 31)))), (5, .int x10)]) rfl ?_
            exact hj25 (x9 ||| (((1 : Int32)) <<< (x10 &&& 31))) σ21
    · refine go_aload_n C 0 rfl rfl dX4_kinds_28 ?_
      refine go_iload_n C 3 rfl rfl dX4_kinds_29 ?_
      refine go_callVI C (st := []) [.int x7] (m_X4_tell E _ hok k1 x7 σ8) (fun _ h => fh_ob_ok h) rfl rfl ⟨q_176, q_178, qs_0, q_1, q_179⟩ pd_X4_tell rfl ⟨⟨Nat.le_of_ble_eq_true rfl, Nat.le_of_ble_eq_true rfl⟩, rfl, rfl⟩ (Nat.le_of_ble_eq_true rfl) dX4_kinds_30 (fun r27 σ26 => ?_)
      exact go_iret C Hr rfl dX4_kinds_33
  refine go_if_ne (tgt := 24) C dX4_kinds_7 rfl (fun _ => ?_) (fun _ => ?_)
  · refine go_lv [1, 2, 3, 0] (lv' := [(0, .ref (fh_ad E k1)), (1, .int a2), (2, .int a3), (3, .int r6)]) rfl ?_
    exact hj28 r6 σ5
  · refine go_aload_n C 1 rfl rfl dX4_kinds_10 ?_
    refine go_gr (ci := 4) (j := 0) C fh_in4 rfl (by decide) rfl q_138 dX4_kinds_11 (fun k29 => ?_)
    refine go_iload_n C 3 rfl rfl dX4_kinds_14 ?_
    refine go_callVI C (st := []) [.int a3] (m_X0_has E _ hok k29 a3 σ5) (fun _ h => fh_ob_ok h) rfl rfl ⟨q_196, q_197, q_198, q_2, q_199⟩ pd_X0_has rfl ⟨⟨Nat.le_of_ble_eq_true rfl, Nat.le_of_ble_eq_true rfl⟩, rfl, rfl⟩ (Nat.le_of_ble_eq_true rfl) dX4_kinds_15 (fun r31 σ30 => ?_)
    refine go_if_ne (tgt := 24) C dX4_kinds_18 rfl (fun _ => ?_) (fun _ => ?_)
    · refine go_lv [1, 2, 3, 0] (lv' := [(0, .ref (fh_ad E k1)), (1, .int a2), (2, .int a3), (3, .int r6)]) rfl ?_
      exact hj28 r6 σ30
    · refine go_ldc C q_175 dX4_kinds_21 ?_
      refine go_istore_n C [(3, .int ((-1000001 : Int32))), (0, .ref (fh_ad E k1)), (1, .int a2), (2, .int a3)] rfl rfl (by decide) dX4_kinds_23 ?_
      refine go_lv [1, 2, 3, 0] (lv' := [(0, .ref (fh_ad E k1)), (1, .int a2), (2, .int a3), (3, .int ((-1000001 : Int32)))]) rfl ?_
      exact hj28 ((-1000001 : Int32)) σ30
theorem m_X4_kinds (E : fh_E) (l : Launch) (hok : fh_ok E) (k1 : Nat) (a2 : Int32) (a3 : Int32) (σ4 : fh_S) : fh_Met E l yX4_kinds cX4_kinds 6 ((some FieldType.int)) rm_X4_kinds fh_vI [.ref (fh_ad E k1), .int a2, .int a3] σ4 (f_X4_kinds k1 a2 a3 σ4) := fh_met hok (by decide +kernel) (Nat.le_of_ble_eq_true rfl) (fun M _ C Hr => g_X4_kinds C Hr k1 a2 a3 σ4)
def f_X4_hoursBetween (a1 : Int32) (a2 : Int32) (σ3 : fh_S) : Option (Int32 × fh_S) := fh_cb (f_X4_roundHour (a1 - a2) σ3) fun r5 σ4 => fh_cb (f_J9_min_7cf53 r5 (((720 : Int32)) - r5) σ4) fun r7 σ6 => some (r7, σ6)
abbrev rm_X4_hoursBetween : Room := { frames := 2, cells := 0, slots := 0, locals := 42 }
theorem pd_X4_hoursBetween : yX4_hoursBetween.cls ≠ "java/lang/invoke/MethodHandle" ∧ yX4_hoursBetween.cls ≠ "java/lang/invoke/VarHandle" ∧ (parseMethodDescriptor yX4_hoursBetween.desc).map (fun d => d.parameters.length) = some 2 := by decide +kernel
theorem dX4_hoursBetween_0 : decode cX4_hoursBetween 0 = .ok (.iload_n 0, 1) := by decide +kernel
theorem dX4_hoursBetween_1 : decode cX4_hoursBetween 1 = .ok (.iload_n 1, 1) := by decide +kernel
theorem dX4_hoursBetween_2 : decode cX4_hoursBetween 2 = .ok (.isub, 1) := by decide +kernel
theorem dX4_hoursBetween_3 : decode cX4_hoursBetween 3 = .ok (.invokestatic 181, 3) := by decide +kernel
theorem dX4_hoursBetween_6 : decode cX4_hoursBetween 6 = .ok (.istore_n 2, 1) := by decide +kernel
theorem dX4_hoursBetween_7 : decode cX4_hoursBetween 7 = .ok (.iload_n 2, 1) := by decide +kernel
theorem dX4_hoursBetween_8 : decode cX4_hoursBetween 8 = .ok (.sipush 720, 3) := by decide +kernel
theorem dX4_hoursBetween_11 : decode cX4_hoursBetween 11 = .ok (.iload_n 2, 1) := by decide +kernel
theorem dX4_hoursBetween_12 : decode cX4_hoursBetween 12 = .ok (.isub, 1) := by decide +kernel
theorem dX4_hoursBetween_13 : decode cX4_hoursBetween 13 = .ok (.invokestatic 261, 3) := by decide +kernel
theorem dX4_hoursBetween_16 : decode cX4_hoursBetween 16 = .ok (.ireturn, 1) := by decide +kernel
set_option maxHeartbeats 4000000 in
set_option maxRecDepth 100000 in
theorem g_X4_hoursBetween {E : fh_E} {M : fh_M} (C : fh_Cx E M cX4_hoursBetween 3 RX4 ((some FieldType.int)) rm_X4_hoursBetween) (Hr : fh_Rt E M) (a1 : Int32) (a2 : Int32) (σ3 : fh_S) : fh_Go E M 3 fh_vI 0 [(0, .int a1), (1, .int a2)] [] σ3 (f_X4_hoursBetween a1 a2 σ3) := by
  have hok := fh_cok C
  refine go_iload_n C 0 rfl rfl dX4_hoursBetween_0 ?_
  refine go_iload_n C 1 rfl rfl dX4_hoursBetween_1 ?_
  refine go_isub C dX4_hoursBetween_2 ?_
  refine go_callSI C (st := []) [.int (a1 - a2)] (m_X4_roundHour E _ hok (a1 - a2) σ3) rfl ⟨q_428, q_244, q_1, q_245⟩ pd_X4_roundHour rfl ⟨⟨Nat.le_of_ble_eq_true rfl, Nat.le_of_ble_eq_true rfl⟩, rfl, rfl⟩ (Nat.le_of_ble_eq_true rfl) dX4_hoursBetween_3 (fun r5 σ4 => ?_)
  refine go_istore_n C [(2, .int r5), (0, .int a1), (1, .int a2)] rfl rfl (by decide) dX4_hoursBetween_6 ?_
  refine go_iload_n C 0 rfl rfl dX4_hoursBetween_7 ?_
  refine go_sipush C (720 : Int32) dX4_hoursBetween_8 rfl ?_
  refine go_iload_n C 0 rfl rfl dX4_hoursBetween_11 ?_
  refine go_isub C dX4_hoursBetween_12 ?_
  refine go_callSI C (st := []) [.int r5, .int (((720 : Int32)) - r5)] (m_J9_min_7cf53 E _ hok r5 (((720 : Int32)) - r5) σ4) rfl ⟨q_473, q_190, q_7, q_191⟩ pd_J9_min_7cf53 rfl ⟨⟨Nat.le_of_ble_eq_true rfl, Nat.le_of_ble_eq_true rfl⟩, rfl, rfl⟩ (Nat.le_of_ble_eq_true rfl) dX4_hoursBetween_13 (fun r7 σ6 => ?_)
  exact go_iret C Hr rfl dX4_hoursBetween_16
theorem m_X4_hoursBetween (E : fh_E) (l : Launch) (hok : fh_ok E) (a1 : Int32) (a2 : Int32) (σ3 : fh_S) : fh_Met E l yX4_hoursBetween cX4_hoursBetween 3 ((some FieldType.int)) rm_X4_hoursBetween fh_vI [.int a1, .int a2] σ3 (f_X4_hoursBetween a1 a2 σ3) := fh_met hok (by decide +kernel) (Nat.le_of_ble_eq_true rfl) (fun M _ C Hr => g_X4_hoursBetween C Hr a1 a2 σ3)
def f_X4_masterFor_J28 (k1 : Nat) : fh_S → Option (Int32 × fh_S) := fun σ9 => fh_cb (f_X4_tell k1 ((-1000001 : Int32)) σ9) fun r11 σ10 => some (r11, σ10)
def f_X4_masterFor_J118 (r21 : Int32 → Int32 → Int32 → fh_S → Option (Int32 × fh_S)) (x19 : Int32) : Int32 → Int32 → fh_S → Option (Int32 × fh_S) := fun x37 x38 σ39 => r21 x37 x38 (x19 + 1) σ39
def f_X4_masterFor_B46 (k1 : Nat) (a2 : Int32) (a4 : Int32) (a3 : Int32) (r21 : Int32 → Int32 → Int32 → fh_S → Option (Int32 × fh_S)) : Int32 → Int32 → Int32 → fh_S → Option (Int32 × fh_S) := fun x17 x18 x19 σ20 => (fh_gr 4 k1 0).bind fun k22 => (fh_gi σ20 0 k22 9).bind fun v23 => if v23 ≤ x19 then some (x17, σ20) else (fh_gr 4 k1 2).bind fun k24 => (fh_gr 4 k1 0).bind fun k25 => fh_cb (f_X0_become k24 k25 σ20) fun _ σ26 => (fh_gr 4 k1 2).bind fun k27 => (fh_gr 0 k27 2).bind fun k28 => (fh_st σ26 k28 a2 x19).bind fun σ29 => (fh_gr 4 k1 2).bind fun k30 => fh_cb (f_X0_passTicks k30 a4 σ29) fun _ σ31 => (fh_gr 4 k1 2).bind fun k32 => (fh_gr 0 k32 1).bind fun k33 => (fh_ld σ31 k33 a2).bind fun v34 => fh_cb (f_X4_hoursBetween v34 a3 σ31) fun r36 σ35 => fh_jn (f_X4_masterFor_J118 r21 x19) (fun j40 => if x18 ≤ r36 then j40 x17 x18 σ35 else j40 x19 r36 σ35)
def f_X4_masterFor (k1 : Nat) (a2 : Int32) (a3 : Int32) (a4 : Int32) (σ5 : fh_S) : Option (Int32 × fh_S) := fh_ob 4 k1 ((fh_gr 4 k1 0).bind fun k6 => fh_cb (f_X0_has k6 a2 σ5) fun r8 σ7 => fh_jn (f_X4_masterFor_J28 k1) (fun j12 => if r8 = 0 then j12 σ7 else fh_cb (f_X4_isHour a3 σ7) fun r14 σ13 => if r14 = 0 then j12 σ13 else fh_cb (f_X4_isWithin a4 ((0 : Int32)) ((100 : Int32)) σ13) fun r16 σ15 => if r16 = 0 then j12 σ15 else fh_fx (ρ := Int32 → Int32 → Int32 → fh_S → Option (Int32 × fh_S)) (fun _ _ _ _ => none) (f_X4_masterFor_B46 k1 a2 a4 a3) fh_fu ((0 : Int32)) ((720 : Int32)) ((0 : Int32)) σ15))
abbrev rm_X4_masterFor : Room := { frames := 5, cells := 0, slots := 0, locals := 111 }
theorem pd_X4_masterFor : yX4_masterFor.cls ≠ "java/lang/invoke/MethodHandle" ∧ yX4_masterFor.cls ≠ "java/lang/invoke/VarHandle" ∧ (parseMethodDescriptor yX4_masterFor.desc).map (fun d => d.parameters.length) = some 3 := by decide +kernel
theorem dX4_masterFor_0 : decode cX4_masterFor 0 = .ok (.aload_n 0, 1) := by decide +kernel
theorem dX4_masterFor_1 : decode cX4_masterFor 1 = .ok (.getfield 12, 3) := by decide +kernel
theorem dX4_masterFor_4 : decode cX4_masterFor 4 = .ok (.iload_n 1, 1) := by decide +kernel
theorem dX4_masterFor_5 : decode cX4_masterFor 5 = .ok (.invokevirtual 70, 3) := by decide +kernel
theorem dX4_masterFor_8 : decode cX4_masterFor 8 = .ok (.ifCond .eq 20, 3) := by decide +kernel
theorem dX4_masterFor_11 : decode cX4_masterFor 11 = .ok (.iload_n 2, 1) := by decide +kernel
theorem dX4_masterFor_12 : decode cX4_masterFor 12 = .ok (.invokestatic 158, 3) := by decide +kernel
theorem dX4_masterFor_15 : decode cX4_masterFor 15 = .ok (.ifCond .eq 13, 3) := by decide +kernel
theorem dX4_masterFor_18 : decode cX4_masterFor 18 = .ok (.iload_n 3, 1) := by decide +kernel
theorem dX4_masterFor_19 : decode cX4_masterFor 19 = .ok (.iconst 0, 1) := by decide +kernel
theorem dX4_masterFor_20 : decode cX4_masterFor 20 = .ok (.bipush 100, 2) := by decide +kernel
theorem dX4_masterFor_22 : decode cX4_masterFor 22 = .ok (.invokestatic 84, 3) := by decide +kernel
theorem dX4_masterFor_25 : decode cX4_masterFor 25 = .ok (.ifCond .ne 10, 3) := by decide +kernel
theorem dX4_masterFor_28 : decode cX4_masterFor 28 = .ok (.aload_n 0, 1) := by decide +kernel
theorem dX4_masterFor_29 : decode cX4_masterFor 29 = .ok (.ldc 57, 2) := by decide +kernel
theorem dX4_masterFor_31 : decode cX4_masterFor 31 = .ok (.invokevirtual 58, 3) := by decide +kernel
theorem dX4_masterFor_34 : decode cX4_masterFor 34 = .ok (.ireturn, 1) := by decide +kernel
theorem dX4_masterFor_35 : decode cX4_masterFor 35 = .ok (.iconst 0, 1) := by decide +kernel
theorem dX4_masterFor_36 : decode cX4_masterFor 36 = .ok (.istore 4, 2) := by decide +kernel
theorem dX4_masterFor_38 : decode cX4_masterFor 38 = .ok (.sipush 720, 3) := by decide +kernel
theorem dX4_masterFor_41 : decode cX4_masterFor 41 = .ok (.istore 5, 2) := by decide +kernel
theorem dX4_masterFor_43 : decode cX4_masterFor 43 = .ok (.iconst 0, 1) := by decide +kernel
theorem dX4_masterFor_44 : decode cX4_masterFor 44 = .ok (.istore 6, 2) := by decide +kernel
theorem dX4_masterFor_46 : decode cX4_masterFor 46 = .ok (.iload 6, 2) := by decide +kernel
theorem dX4_masterFor_48 : decode cX4_masterFor 48 = .ok (.aload_n 0, 1) := by decide +kernel
theorem dX4_masterFor_49 : decode cX4_masterFor 49 = .ok (.getfield 12, 3) := by decide +kernel
theorem dX4_masterFor_52 : decode cX4_masterFor 52 = .ok (.getfield 136, 3) := by decide +kernel
theorem dX4_masterFor_55 : decode cX4_masterFor 55 = .ok (.if_icmp .ge 69, 3) := by decide +kernel
theorem dX4_masterFor_58 : decode cX4_masterFor 58 = .ok (.aload_n 0, 1) := by decide +kernel
theorem dX4_masterFor_59 : decode cX4_masterFor 59 = .ok (.getfield 19, 3) := by decide +kernel
theorem dX4_masterFor_62 : decode cX4_masterFor 62 = .ok (.aload_n 0, 1) := by decide +kernel
theorem dX4_masterFor_63 : decode cX4_masterFor 63 = .ok (.getfield 12, 3) := by decide +kernel
theorem dX4_masterFor_66 : decode cX4_masterFor 66 = .ok (.invokevirtual 161, 3) := by decide +kernel
theorem dX4_masterFor_69 : decode cX4_masterFor 69 = .ok (.aload_n 0, 1) := by decide +kernel
theorem dX4_masterFor_70 : decode cX4_masterFor 70 = .ok (.getfield 19, 3) := by decide +kernel
theorem dX4_masterFor_73 : decode cX4_masterFor 73 = .ok (.getfield 190, 3) := by decide +kernel
theorem dX4_masterFor_76 : decode cX4_masterFor 76 = .ok (.iload_n 1, 1) := by decide +kernel
theorem dX4_masterFor_77 : decode cX4_masterFor 77 = .ok (.iload 6, 2) := by decide +kernel
theorem dX4_masterFor_79 : decode cX4_masterFor 79 = .ok (.iastore, 1) := by decide +kernel
theorem dX4_masterFor_80 : decode cX4_masterFor 80 = .ok (.aload_n 0, 1) := by decide +kernel
theorem dX4_masterFor_81 : decode cX4_masterFor 81 = .ok (.getfield 19, 3) := by decide +kernel
theorem dX4_masterFor_84 : decode cX4_masterFor 84 = .ok (.iload_n 3, 1) := by decide +kernel
theorem dX4_masterFor_85 : decode cX4_masterFor 85 = .ok (.invokevirtual 107, 3) := by decide +kernel
theorem dX4_masterFor_88 : decode cX4_masterFor 88 = .ok (.aload_n 0, 1) := by decide +kernel
theorem dX4_masterFor_89 : decode cX4_masterFor 89 = .ok (.getfield 19, 3) := by decide +kernel
theorem dX4_masterFor_92 : decode cX4_masterFor 92 = .ok (.getfield 92, 3) := by decide +kernel
theorem dX4_masterFor_95 : decode cX4_masterFor 95 = .ok (.iload_n 1, 1) := by decide +kernel
theorem dX4_masterFor_96 : decode cX4_masterFor 96 = .ok (.iaload, 1) := by decide +kernel
theorem dX4_masterFor_97 : decode cX4_masterFor 97 = .ok (.iload_n 2, 1) := by decide +kernel
theorem dX4_masterFor_98 : decode cX4_masterFor 98 = .ok (.invokestatic 200, 3) := by decide +kernel
theorem dX4_masterFor_101 : decode cX4_masterFor 101 = .ok (.istore 7, 2) := by decide +kernel
theorem dX4_masterFor_103 : decode cX4_masterFor 103 = .ok (.iload 7, 2) := by decide +kernel
theorem dX4_masterFor_105 : decode cX4_masterFor 105 = .ok (.iload 5, 2) := by decide +kernel
theorem dX4_masterFor_107 : decode cX4_masterFor 107 = .ok (.if_icmp .ge 11, 3) := by decide +kernel
theorem dX4_masterFor_110 : decode cX4_masterFor 110 = .ok (.iload 7, 2) := by decide +kernel
theorem dX4_masterFor_112 : decode cX4_masterFor 112 = .ok (.istore 5, 2) := by decide +kernel
theorem dX4_masterFor_114 : decode cX4_masterFor 114 = .ok (.iload 6, 2) := by decide +kernel
theorem dX4_masterFor_116 : decode cX4_masterFor 116 = .ok (.istore 4, 2) := by decide +kernel
theorem dX4_masterFor_118 : decode cX4_masterFor 118 = .ok (.iinc 6 1, 3) := by decide +kernel
theorem dX4_masterFor_121 : decode cX4_masterFor 121 = .ok (.goto (-75), 3) := by decide +kernel
theorem dX4_masterFor_124 : decode cX4_masterFor 124 = .ok (.iload 4, 2) := by decide +kernel
theorem dX4_masterFor_126 : decode cX4_masterFor 126 = .ok (.ireturn, 1) := by decide +kernel
set_option maxHeartbeats 4000000 in
set_option maxRecDepth 100000 in
theorem g_X4_masterFor {E : fh_E} {M : fh_M} (C : fh_Cx E M cX4_masterFor 8 RX4 ((some FieldType.int)) rm_X4_masterFor) (Hr : fh_Rt E M) (k1 : Nat) (a2 : Int32) (a3 : Int32) (a4 : Int32) (σ5 : fh_S) : fh_Go E M 8 fh_vI 0 [(0, .ref (fh_ad E k1)), (1, .int a2), (2, .int a3), (3, .int a4)] [] σ5 (f_X4_masterFor k1 a2 a3 a4 σ5) := by
  have hok := fh_cok C
  refine go_ob ?_
  refine go_aload_n C 0 rfl rfl dX4_masterFor_0 ?_
  refine go_gr (ci := 4) (j := 0) C fh_in4 rfl (by decide) rfl q_138 dX4_masterFor_1 (fun k6 => ?_)
  refine go_iload_n C 1 rfl rfl dX4_masterFor_4 ?_
  refine go_callVI C (st := []) [.int a2] (m_X0_has E _ hok k6 a2 σ5) (fun _ h => fh_ob_ok h) rfl rfl ⟨q_196, q_197, q_198, q_2, q_199⟩ pd_X0_has rfl ⟨⟨Nat.le_of_ble_eq_true rfl, Nat.le_of_ble_eq_true rfl⟩, rfl, rfl⟩ (Nat.le_of_ble_eq_true rfl) dX4_masterFor_5 (fun r8 σ7 => ?_)
  refine go_jn (fun (j12 : fh_S → Option (Int32 × fh_S)) => ∀ (σ9 : fh_S), fh_Go E M 8 fh_vI 28 [(0, .ref (fh_ad E k1))] [] σ9 (j12 σ9)) ?_ (fun j12 hj12 => ?_)
  · intro σ9
    refine go_aload_n C 0 rfl rfl dX4_masterFor_28 ?_
    refine go_ldc C q_175 dX4_masterFor_29 ?_
    refine go_callVI C (st := []) [.int ((-1000001 : Int32))] (m_X4_tell E _ hok k1 ((-1000001 : Int32)) σ9) (fun _ h => fh_ob_ok h) rfl rfl ⟨q_176, q_178, qs_0, q_1, q_179⟩ pd_X4_tell rfl ⟨⟨Nat.le_of_ble_eq_true rfl, Nat.le_of_ble_eq_true rfl⟩, rfl, rfl⟩ (Nat.le_of_ble_eq_true rfl) dX4_masterFor_31 (fun r11 σ10 => ?_)
    exact go_iret C Hr rfl dX4_masterFor_34
  refine go_if_eq (tgt := 28) C dX4_masterFor_8 rfl (fun _ => ?_) (fun _ => ?_)
  · refine go_lv [0] (lv' := [(0, .ref (fh_ad E k1))]) rfl ?_
    exact hj12 σ7
  · refine go_iload_n C 2 rfl rfl dX4_masterFor_11 ?_
    refine go_callSI C (st := []) [.int a3] (m_X4_isHour E _ hok a3 σ7) rfl ⟨q_393, q_231, q_1, q_232⟩ pd_X4_isHour rfl ⟨⟨Nat.le_of_ble_eq_true rfl, Nat.le_of_ble_eq_true rfl⟩, rfl, rfl⟩ (Nat.le_of_ble_eq_true rfl) dX4_masterFor_12 (fun r14 σ13 => ?_)
    refine go_if_eq (tgt := 28) C dX4_masterFor_15 rfl (fun _ => ?_) (fun _ => ?_)
    · refine go_lv [0] (lv' := [(0, .ref (fh_ad E k1))]) rfl ?_
      exact hj12 σ13
    · refine go_iload_n C 3 rfl rfl dX4_masterFor_18 ?_
      refine go_iconst C (0 : Int32) dX4_masterFor_19 rfl ?_
      refine go_bipush C (100 : Int32) dX4_masterFor_20 rfl ?_
      refine go_callSI C (st := []) [.int a4, .int ((0 : Int32)), .int ((100 : Int32))] (m_X4_isWithin E _ hok a4 ((0 : Int32)) ((100 : Int32)) σ13) rfl ⟨q_172, q_173, q_1, q_174⟩ pd_X4_isWithin rfl ⟨⟨Nat.le_of_ble_eq_true rfl, Nat.le_of_ble_eq_true rfl⟩, rfl, rfl⟩ (Nat.le_of_ble_eq_true rfl) dX4_masterFor_22 (fun r16 σ15 => ?_)
      refine go_if_ne (tgt := 35) C dX4_masterFor_25 rfl (fun _ => ?_) (fun _ => ?_)
      · refine go_iconst C (0 : Int32) dX4_masterFor_35 rfl ?_
        refine go_istore C [(4, .int ((0 : Int32))), (0, .ref (fh_ad E k1)), (1, .int a2), (2, .int a3), (3, .int a4)] rfl (by decide) dX4_masterFor_36 ?_
        refine go_sipush C (720 : Int32) dX4_masterFor_38 rfl ?_
        refine go_istore C [(5, .int ((720 : Int32))), (4, .int ((0 : Int32))), (0, .ref (fh_ad E k1)), (1, .int a2), (2, .int a3), (3, .int a4)] rfl (by decide) dX4_masterFor_41 ?_
        refine go_iconst C (0 : Int32) dX4_masterFor_43 rfl ?_
        refine go_istore C [(6, .int ((0 : Int32))), (5, .int ((720 : Int32))), (4, .int ((0 : Int32))), (0, .ref (fh_ad E k1)), (1, .int a2), (2, .int a3), (3, .int a4)] rfl (by decide) dX4_masterFor_44 ?_
        refine go_lv [3, 4, 5, 6, 2, 1, 0] (lv' := [(0, .ref (fh_ad E k1)), (1, .int a2), (2, .int a3), (3, .int a4), (4, .int ((0 : Int32))), (5, .int ((720 : Int32))), (6, .int ((0 : Int32)))]) rfl ?_
        refine go_fx (fun (r21 : Int32 → Int32 → Int32 → fh_S → Option (Int32 × fh_S)) => ∀ (x17 : Int32) (x18 : Int32) (x19 : Int32) (σ20 : fh_S), fh_Go E M 8 fh_vI 46 [(0, .ref (fh_ad E k1)), (1, .int a2), (2, .int a3), (3, .int a4), (4, .int x17), (5, .int x18), (6, .int x19)] [] σ20 (r21 x17 x18 x19 σ20)) ?_ ?_ fh_fu ((0 : Int32)) ((720 : Int32)) ((0 : Int32)) σ15
        · intro x17 x18 x19 σ20
          exact go_none
        · intro r21 hr21 x17 x18 x19 σ20
          refine go_iload C 6 rfl dX4_masterFor_46 ?_
          refine go_aload_n C 0 rfl rfl dX4_masterFor_48 ?_
          refine go_gr (ci := 4) (j := 0) C fh_in4 rfl (by decide) rfl q_138 dX4_masterFor_49 (fun k22 => ?_)
          refine go_gi (ci := 0) (j := 9) C fh_in0 rfl (by decide) rfl q_48 dX4_masterFor_52 (fun v23 => ?_)
          refine go_icmp_ge (tgt := 124) C dX4_masterFor_55 rfl (fun _ => ?_) (fun _ => ?_)
          · refine go_iload C 4 rfl dX4_masterFor_124 ?_
            exact go_iret C Hr rfl dX4_masterFor_126
          · refine go_aload_n C 0 rfl rfl dX4_masterFor_58 ?_
            refine go_gr (ci := 4) (j := 2) C fh_in4 rfl (by decide) rfl q_140 dX4_masterFor_59 (fun k24 => ?_)
            refine go_aload_n C 0 rfl rfl dX4_masterFor_62 ?_
            refine go_gr (ci := 4) (j := 0) C fh_in4 rfl (by decide) rfl q_138 dX4_masterFor_63 (fun k25 => ?_)
            refine go_callVU C (st := []) [.ref (fh_ad E k25)] (m_X0_become E _ hok k24 k25 σ20) (fun _ h => fh_ob_ok h) rfl rfl ⟨q_378, q_379, q_380, q_2, q_381⟩ pd_X0_become rfl ⟨⟨Nat.le_of_ble_eq_true rfl, Nat.le_of_ble_eq_true rfl⟩, rfl, rfl⟩ (Nat.le_of_ble_eq_true rfl) dX4_masterFor_66 (fun _ σ26 => ?_)
            refine go_aload_n C 0 rfl rfl dX4_masterFor_69 ?_
            refine go_gr (ci := 4) (j := 2) C fh_in4 rfl (by decide) rfl q_140 dX4_masterFor_70 (fun k27 => ?_)
            refine go_gr (ci := 0) (j := 2) C fh_in0 rfl (by decide) rfl q_35 dX4_masterFor_73 (fun k28 => ?_)
            refine go_iload_n C 1 rfl rfl dX4_masterFor_76 ?_
            refine go_iload C 6 rfl dX4_masterFor_77 ?_
            refine go_iast C dX4_masterFor_79 (fun σ29 => ?_)
            refine go_aload_n C 0 rfl rfl dX4_masterFor_80 ?_
            refine go_gr (ci := 4) (j := 2) C fh_in4 rfl (by decide) rfl q_140 dX4_masterFor_81 (fun k30 => ?_)
            refine go_iload_n C 3 rfl rfl dX4_masterFor_84 ?_
            refine go_callVU C (st := []) [.int a4] (m_X0_passTicks E _ hok k30 a4 σ29) (fun _ h => fh_ob_ok h) rfl rfl ⟨q_267, q_268, q_269, q_2, q_270⟩ pd_X0_passTicks rfl ⟨⟨Nat.le_of_ble_eq_true rfl, Nat.le_of_ble_eq_true rfl⟩, rfl, rfl⟩ (Nat.le_of_ble_eq_true rfl) dX4_masterFor_85 (fun _ σ31 => ?_)
            refine go_aload_n C 0 rfl rfl dX4_masterFor_88 ?_
            refine go_gr (ci := 4) (j := 2) C fh_in4 rfl (by decide) rfl q_140 dX4_masterFor_89 (fun k32 => ?_)
            refine go_gr (ci := 0) (j := 1) C fh_in0 rfl (by decide) rfl q_32 dX4_masterFor_92 (fun k33 => ?_)
            refine go_iload_n C 1 rfl rfl dX4_masterFor_95 ?_
            refine go_iald C dX4_masterFor_96 (fun v34 => ?_)
            refine go_iload_n C 2 rfl rfl dX4_masterFor_97 ?_
            refine go_callSI C (st := []) [.int v34, .int a3] (m_X4_hoursBetween E _ hok v34 a3 σ31) rfl ⟨q_470, q_471, q_1, q_472⟩ pd_X4_hoursBetween rfl ⟨⟨Nat.le_of_ble_eq_true rfl, Nat.le_of_ble_eq_true rfl⟩, rfl, rfl⟩ (Nat.le_of_ble_eq_true rfl) dX4_masterFor_98 (fun r36 σ35 => ?_)
            refine go_istore C [(7, .int r36), (0, .ref (fh_ad E k1)), (1, .int a2), (2, .int a3), (3, .int a4), (4, .int x17), (5, .int x18), (6, .int x19)] rfl (by decide) dX4_masterFor_101 ?_
            refine go_iload C 0 rfl dX4_masterFor_103 ?_
            refine go_iload C 6 rfl dX4_masterFor_105 ?_
            refine go_jn (fun (j40 : Int32 → Int32 → fh_S → Option (Int32 × fh_S)) => ∀ (x37 : Int32) (x38 : Int32) (σ39 : fh_S), fh_Go E M 8 fh_vI 118 [(0, .ref (fh_ad E k1)), (1, .int a2), (2, .int a3), (3, .int a4), (4, .int x37), (5, .int x38), (6, .int x19)] [] σ39 (j40 x37 x38 σ39)) ?_ (fun j40 hj40 => ?_)
            · intro x37 x38 σ39
              refine go_iinc C (x19 + 1) 6 [(6, .int (x19 + 1)), (0, .ref (fh_ad E k1)), (1, .int a2), (2, .int a3), (3, .int a4), (4, .int x37), (5, .int x38)] rfl rfl rfl (by decide) dX4_masterFor_118 ?_
              refine go_goto C 46 dX4_masterFor_121 rfl ?_
              refine go_lv [1, 2, 3, 4, 5, 6, 0] (lv' := [(0, .ref (fh_ad E k1)), (1, .int a2), (2, .int a3), (3, .int a4), (4, .int x37), (5, .int x38), (6, .int (x19 + 1))]) rfl ?_
              exact hr21 x37 x38 (x19 + 1) σ39
            refine go_icmp_ge (tgt := 118) C dX4_masterFor_107 rfl (fun _ => ?_) (fun _ => ?_)
            · refine go_lv [1, 2, 3, 4, 5, 6, 7] (lv' := [(0, .ref (fh_ad E k1)), (1, .int a2), (2, .int a3), (3, .int a4), (4, .int x17), (5, .int x18), (6, .int x19)]) rfl ?_
              exact hj40 x17 x18 σ35
            · refine go_iload C 0 rfl dX4_masterFor_110 ?_
              refine go_istore C [(5, .int r36), (7, .int r36), (0, .ref (fh_ad E k1)), (1, .int a2), (2, .int a3), (3, .int a4), (4, .int x17), (6, .int x19)] rfl (by decide) dX4_masterFor_112 ?_
              refine go_iload C 7 rfl dX4_masterFor_114 ?_
              refine go_istore C [(4, .int x19), (5, .int r36), (7, .int r36), (0, .ref (fh_ad E k1)), (1, .int a2), (2, .int a3), (3, .int a4), (6, .int x19)] rfl (by decide) dX4_masterFor_116 ?_
              refine go_lv [3, 4, 5, 6, 0, 1, 7] (lv' := [(0, .ref (fh_ad E k1)), (1, .int a2), (2, .int a3), (3, .int a4), (4, .int x19), (5, .int r36), (6, .int x19)]) rfl ?_
              exact hj40 x19 r36 σ35
      · refine go_lv [0] (lv' := [(0, .ref (fh_ad E k1))]) rfl ?_
        exact hj12 σ15
theorem m_X4_masterFor (E : fh_E) (l : Launch) (hok : fh_ok E) (k1 : Nat) (a2 : Int32) (a3 : Int32) (a4 : Int32) (σ5 : fh_S) : fh_Met E l yX4_masterFor cX4_masterFor 8 ((some FieldType.int)) rm_X4_masterFor fh_vI [.ref (fh_ad E k1), .int a2, .int a3, .int a4] σ5 (f_X4_masterFor k1 a2 a3 a4 σ5) := fh_met hok (by decide +kernel) (Nat.le_of_ble_eq_true rfl) (fun M _ C Hr => g_X4_masterFor C Hr k1 a2 a3 a4 σ5)
def f_X4_stillIfStopped_J41 (r10 : Int32 → fh_S → Option (Int32 × fh_S)) (x8 : Int32) : fh_S → Option (Int32 × fh_S) := fun σ20 => r10 (x8 + 1) σ20
def f_X4_stillIfStopped_B13 (k1 : Nat) (a3 : Int32) (a2 : Int32) (r10 : Int32 → fh_S → Option (Int32 × fh_S)) : Int32 → fh_S → Option (Int32 × fh_S) := fun x8 σ9 => (fh_gr 4 k1 2).bind fun k11 => (fh_gi σ9 0 k11 9).bind fun v12 => if v12 ≤ x8 then (fh_gr 4 k1 2).bind fun k13 => fh_cb (f_X0_passTicksForGoings k13 a3 σ9) fun _ σ14 => (fh_gr 4 k1 2).bind fun k15 => fh_cb (f_X0_stillSet k15 σ14) fun r17 σ16 => some (r17, σ16) else fh_cb (f_X4_isIn a2 x8 σ9) fun r19 σ18 => fh_jn (f_X4_stillIfStopped_J41 r10 x8) (fun j21 => if r19 = 0 then j21 σ18 else (fh_gr 4 k1 2).bind fun k22 => fh_cb (f_X0_freeze k22 x8 σ18) fun r24 σ23 => j21 σ23)
def f_X4_stillIfStopped (k1 : Nat) (a2 : Int32) (a3 : Int32) (σ4 : fh_S) : Option (Int32 × fh_S) := fh_ob 4 k1 ((fh_gr 4 k1 2).bind fun k5 => (fh_gr 4 k1 0).bind fun k6 => fh_cb (f_X0_become k5 k6 σ4) fun _ σ7 => fh_fx (ρ := Int32 → fh_S → Option (Int32 × fh_S)) (fun _ _ => none) (f_X4_stillIfStopped_B13 k1 a3 a2) fh_fu ((0 : Int32)) σ7)
abbrev rm_X4_stillIfStopped : Room := { frames := 5, cells := 0, slots := 0, locals := 112 }
theorem pd_X4_stillIfStopped : yX4_stillIfStopped.cls ≠ "java/lang/invoke/MethodHandle" ∧ yX4_stillIfStopped.cls ≠ "java/lang/invoke/VarHandle" ∧ (parseMethodDescriptor yX4_stillIfStopped.desc).map (fun d => d.parameters.length) = some 2 := by decide +kernel
theorem dX4_stillIfStopped_0 : decode cX4_stillIfStopped 0 = .ok (.aload_n 0, 1) := by decide +kernel
theorem dX4_stillIfStopped_1 : decode cX4_stillIfStopped 1 = .ok (.getfield 19, 3) := by decide +kernel
theorem dX4_stillIfStopped_4 : decode cX4_stillIfStopped 4 = .ok (.aload_n 0, 1) := by decide +kernel
theorem dX4_stillIfStopped_5 : decode cX4_stillIfStopped 5 = .ok (.getfield 12, 3) := by decide +kernel
theorem dX4_stillIfStopped_8 : decode cX4_stillIfStopped 8 = .ok (.invokevirtual 161, 3) := by decide +kernel
theorem dX4_stillIfStopped_11 : decode cX4_stillIfStopped 11 = .ok (.iconst 0, 1) := by decide +kernel
theorem dX4_stillIfStopped_12 : decode cX4_stillIfStopped 12 = .ok (.istore_n 3, 1) := by decide +kernel
theorem dX4_stillIfStopped_13 : decode cX4_stillIfStopped 13 = .ok (.iload_n 3, 1) := by decide +kernel
theorem dX4_stillIfStopped_14 : decode cX4_stillIfStopped 14 = .ok (.aload_n 0, 1) := by decide +kernel
theorem dX4_stillIfStopped_15 : decode cX4_stillIfStopped 15 = .ok (.getfield 19, 3) := by decide +kernel
theorem dX4_stillIfStopped_18 : decode cX4_stillIfStopped 18 = .ok (.getfield 136, 3) := by decide +kernel
theorem dX4_stillIfStopped_21 : decode cX4_stillIfStopped 21 = .ok (.if_icmp .ge 26, 3) := by decide +kernel
theorem dX4_stillIfStopped_24 : decode cX4_stillIfStopped 24 = .ok (.iload_n 1, 1) := by decide +kernel
theorem dX4_stillIfStopped_25 : decode cX4_stillIfStopped 25 = .ok (.iload_n 3, 1) := by decide +kernel
theorem dX4_stillIfStopped_26 : decode cX4_stillIfStopped 26 = .ok (.invokestatic 272, 3) := by decide +kernel
theorem dX4_stillIfStopped_29 : decode cX4_stillIfStopped 29 = .ok (.ifCond .eq 12, 3) := by decide +kernel
theorem dX4_stillIfStopped_32 : decode cX4_stillIfStopped 32 = .ok (.aload_n 0, 1) := by decide +kernel
theorem dX4_stillIfStopped_33 : decode cX4_stillIfStopped 33 = .ok (.getfield 19, 3) := by decide +kernel
theorem dX4_stillIfStopped_36 : decode cX4_stillIfStopped 36 = .ok (.iload_n 3, 1) := by decide +kernel
theorem dX4_stillIfStopped_37 : decode cX4_stillIfStopped 37 = .ok (.invokevirtual 95, 3) := by decide +kernel
theorem dX4_stillIfStopped_40 : decode cX4_stillIfStopped 40 = .ok (.pop, 1) := by decide +kernel
theorem dX4_stillIfStopped_41 : decode cX4_stillIfStopped 41 = .ok (.iinc 3 1, 3) := by decide +kernel
theorem dX4_stillIfStopped_44 : decode cX4_stillIfStopped 44 = .ok (.goto (-31), 3) := by decide +kernel
theorem dX4_stillIfStopped_47 : decode cX4_stillIfStopped 47 = .ok (.aload_n 0, 1) := by decide +kernel
theorem dX4_stillIfStopped_48 : decode cX4_stillIfStopped 48 = .ok (.getfield 19, 3) := by decide +kernel
theorem dX4_stillIfStopped_51 : decode cX4_stillIfStopped 51 = .ok (.iload_n 2, 1) := by decide +kernel
theorem dX4_stillIfStopped_52 : decode cX4_stillIfStopped 52 = .ok (.invokevirtual 275, 3) := by decide +kernel
theorem dX4_stillIfStopped_55 : decode cX4_stillIfStopped 55 = .ok (.aload_n 0, 1) := by decide +kernel
theorem dX4_stillIfStopped_56 : decode cX4_stillIfStopped 56 = .ok (.getfield 19, 3) := by decide +kernel
theorem dX4_stillIfStopped_59 : decode cX4_stillIfStopped 59 = .ok (.invokevirtual 115, 3) := by decide +kernel
theorem dX4_stillIfStopped_62 : decode cX4_stillIfStopped 62 = .ok (.ireturn, 1) := by decide +kernel
set_option maxHeartbeats 4000000 in
set_option maxRecDepth 100000 in
theorem g_X4_stillIfStopped {E : fh_E} {M : fh_M} (C : fh_Cx E M cX4_stillIfStopped 4 RX4 ((some FieldType.int)) rm_X4_stillIfStopped) (Hr : fh_Rt E M) (k1 : Nat) (a2 : Int32) (a3 : Int32) (σ4 : fh_S) : fh_Go E M 4 fh_vI 0 [(0, .ref (fh_ad E k1)), (1, .int a2), (2, .int a3)] [] σ4 (f_X4_stillIfStopped k1 a2 a3 σ4) := by
  have hok := fh_cok C
  refine go_ob ?_
  refine go_aload_n C 0 rfl rfl dX4_stillIfStopped_0 ?_
  refine go_gr (ci := 4) (j := 2) C fh_in4 rfl (by decide) rfl q_140 dX4_stillIfStopped_1 (fun k5 => ?_)
  refine go_aload_n C 0 rfl rfl dX4_stillIfStopped_4 ?_
  refine go_gr (ci := 4) (j := 0) C fh_in4 rfl (by decide) rfl q_138 dX4_stillIfStopped_5 (fun k6 => ?_)
  refine go_callVU C (st := []) [.ref (fh_ad E k6)] (m_X0_become E _ hok k5 k6 σ4) (fun _ h => fh_ob_ok h) rfl rfl ⟨q_378, q_379, q_380, q_2, q_381⟩ pd_X0_become rfl ⟨⟨Nat.le_of_ble_eq_true rfl, Nat.le_of_ble_eq_true rfl⟩, rfl, rfl⟩ (Nat.le_of_ble_eq_true rfl) dX4_stillIfStopped_8 (fun _ σ7 => ?_)
  refine go_iconst C (0 : Int32) dX4_stillIfStopped_11 rfl ?_
  refine go_istore_n C [(3, .int ((0 : Int32))), (0, .ref (fh_ad E k1)), (1, .int a2), (2, .int a3)] rfl rfl (by decide) dX4_stillIfStopped_12 ?_
  refine go_lv [1, 2, 3, 0] (lv' := [(0, .ref (fh_ad E k1)), (1, .int a2), (2, .int a3), (3, .int ((0 : Int32)))]) rfl ?_
  refine go_fx (fun (r10 : Int32 → fh_S → Option (Int32 × fh_S)) => ∀ (x8 : Int32) (σ9 : fh_S), fh_Go E M 4 fh_vI 13 [(0, .ref (fh_ad E k1)), (1, .int a2), (2, .int a3), (3, .int x8)] [] σ9 (r10 x8 σ9)) ?_ ?_ fh_fu ((0 : Int32)) σ7
  · intro x8 σ9
    exact go_none
  · intro r10 hr10 x8 σ9
    refine go_iload_n C 3 rfl rfl dX4_stillIfStopped_13 ?_
    refine go_aload_n C 0 rfl rfl dX4_stillIfStopped_14 ?_
    refine go_gr (ci := 4) (j := 2) C fh_in4 rfl (by decide) rfl q_140 dX4_stillIfStopped_15 (fun k11 => ?_)
    refine go_gi (ci := 0) (j := 9) C fh_in0 rfl (by decide) rfl q_48 dX4_stillIfStopped_18 (fun v12 => ?_)
    refine go_icmp_ge (tgt := 47) C dX4_stillIfStopped_21 rfl (fun _ => ?_) (fun _ => ?_)
    · refine go_aload_n C 0 rfl rfl dX4_stillIfStopped_47 ?_
      refine go_gr (ci := 4) (j := 2) C fh_in4 rfl (by decide) rfl q_140 dX4_stillIfStopped_48 (fun k13 => ?_)
      refine go_iload_n C 2 rfl rfl dX4_stillIfStopped_51 ?_
      refine go_callVU C (st := []) [.int a3] (m_X0_passTicksForGoings E _ hok k13 a3 σ9) (fun _ h => fh_ob_ok h) rfl rfl ⟨q_483, q_484, q_485, q_2, q_486⟩ pd_X0_passTicksForGoings rfl ⟨⟨Nat.le_of_ble_eq_true rfl, Nat.le_of_ble_eq_true rfl⟩, rfl, rfl⟩ (Nat.le_of_ble_eq_true rfl) dX4_stillIfStopped_52 (fun _ σ14 => ?_)
      refine go_aload_n C 0 rfl rfl dX4_stillIfStopped_55 ?_
      refine go_gr (ci := 4) (j := 2) C fh_in4 rfl (by decide) rfl q_140 dX4_stillIfStopped_56 (fun k15 => ?_)
      refine go_callVI C (st := []) [] (m_X0_stillSet E _ hok k15 σ14) (fun _ h => fh_ob_ok h) rfl rfl ⟨q_290, q_291, q_292, q_2, q_293⟩ pd_X0_stillSet rfl ⟨⟨Nat.le_of_ble_eq_true rfl, Nat.le_of_ble_eq_true rfl⟩, rfl, rfl⟩ (Nat.le_of_ble_eq_true rfl) dX4_stillIfStopped_59 (fun r17 σ16 => ?_)
      exact go_iret C Hr rfl dX4_stillIfStopped_62
    · refine go_iload_n C 1 rfl rfl dX4_stillIfStopped_24 ?_
      refine go_iload_n C 3 rfl rfl dX4_stillIfStopped_25 ?_
      refine go_callSI C (st := []) [.int a2, .int x8] (m_X4_isIn E _ hok a2 x8 σ9) rfl ⟨q_482, q_355, q_1, q_356⟩ pd_X4_isIn rfl ⟨⟨Nat.le_of_ble_eq_true rfl, Nat.le_of_ble_eq_true rfl⟩, rfl, rfl⟩ (Nat.le_of_ble_eq_true rfl) dX4_stillIfStopped_26 (fun r19 σ18 => ?_)
      refine go_jn (fun (j21 : fh_S → Option (Int32 × fh_S)) => ∀ (σ20 : fh_S), fh_Go E M 4 fh_vI 41 [(0, .ref (fh_ad E k1)), (1, .int a2), (2, .int a3), (3, .int x8)] [] σ20 (j21 σ20)) ?_ (fun j21 hj21 => ?_)
      · intro σ20
        refine go_iinc C (x8 + 1) 3 [(3, .int (x8 + 1)), (0, .ref (fh_ad E k1)), (1, .int a2), (2, .int a3)] rfl rfl rfl (by decide) dX4_stillIfStopped_41 ?_
        refine go_goto C 13 dX4_stillIfStopped_44 rfl ?_
        refine go_lv [1, 2, 3, 0] (lv' := [(0, .ref (fh_ad E k1)), (1, .int a2), (2, .int a3), (3, .int (x8 + 1))]) rfl ?_
        exact hr10 (x8 + 1) σ20
      refine go_if_eq (tgt := 41) C dX4_stillIfStopped_29 rfl (fun _ => ?_) (fun _ => ?_)
      · exact hj21 σ18
      · refine go_aload_n C 0 rfl rfl dX4_stillIfStopped_32 ?_
        refine go_gr (ci := 4) (j := 2) C fh_in4 rfl (by decide) rfl q_140 dX4_stillIfStopped_33 (fun k22 => ?_)
        refine go_iload_n C 3 rfl rfl dX4_stillIfStopped_36 ?_
        refine go_callVI C (st := []) [.int x8] (m_X0_freeze E _ hok k22 x8 σ18) (fun _ h => fh_ob_ok h) rfl rfl ⟨q_253, q_254, q_255, q_2, q_256⟩ pd_X0_freeze rfl ⟨⟨Nat.le_of_ble_eq_true rfl, Nat.le_of_ble_eq_true rfl⟩, rfl, rfl⟩ (Nat.le_of_ble_eq_true rfl) dX4_stillIfStopped_37 (fun r24 σ23 => ?_)
        refine go_pop C rfl dX4_stillIfStopped_40 ?_
        exact hj21 σ23
theorem m_X4_stillIfStopped (E : fh_E) (l : Launch) (hok : fh_ok E) (k1 : Nat) (a2 : Int32) (a3 : Int32) (σ4 : fh_S) : fh_Met E l yX4_stillIfStopped cX4_stillIfStopped 4 ((some FieldType.int)) rm_X4_stillIfStopped fh_vI [.ref (fh_ad E k1), .int a2, .int a3] σ4 (f_X4_stillIfStopped k1 a2 a3 σ4) := fh_met hok (by decide +kernel) (Nat.le_of_ble_eq_true rfl) (fun M _ C Hr => g_X4_stillIfStopped C Hr k1 a2 a3 σ4)
def f_X4_halted_J21 (k1 : Nat) : fh_S → Option (Int32 × fh_S) := fun σ8 => fh_cb (f_X4_tell k1 ((-1000001 : Int32)) σ8) fun r10 σ9 => some (r10, σ9)
def f_X4_halted (k1 : Nat) (a2 : Int32) (a3 : Int32) (σ4 : fh_S) : Option (Int32 × fh_S) := fh_ob 4 k1 ((fh_gr 4 k1 0).bind fun k5 => fh_cb (f_X0_has k5 a2 σ4) fun r7 σ6 => fh_jn (f_X4_halted_J21 k1) (fun j11 => if r7 = 0 then j11 σ6 else fh_cb (f_X4_isWithin a3 ((0 : Int32)) ((100 : Int32)) σ6) fun r13 σ12 => if r13 = 0 then j11 σ12 else fh_cb (f_X4_stillIfStopped k1 (((1 : Int32)) <<< (a2 &&& 31)) a3 σ12) fun r15 σ14 => fh_cb (f_J6_bitCount_0f7a4 r15 σ14) fun r17 σ16 => some (r17, σ16)))
abbrev rm_X4_halted : Room := { frames := 6, cells := 0, slots := 0, locals := 135 }
theorem pd_X4_halted : yX4_halted.cls ≠ "java/lang/invoke/MethodHandle" ∧ yX4_halted.cls ≠ "java/lang/invoke/VarHandle" ∧ (parseMethodDescriptor yX4_halted.desc).map (fun d => d.parameters.length) = some 2 := by decide +kernel
theorem dX4_halted_0 : decode cX4_halted 0 = .ok (.aload_n 0, 1) := by decide +kernel
theorem dX4_halted_1 : decode cX4_halted 1 = .ok (.getfield 12, 3) := by decide +kernel
theorem dX4_halted_4 : decode cX4_halted 4 = .ok (.iload_n 1, 1) := by decide +kernel
theorem dX4_halted_5 : decode cX4_halted 5 = .ok (.invokevirtual 70, 3) := by decide +kernel
theorem dX4_halted_8 : decode cX4_halted 8 = .ok (.ifCond .eq 13, 3) := by decide +kernel
theorem dX4_halted_11 : decode cX4_halted 11 = .ok (.iload_n 2, 1) := by decide +kernel
theorem dX4_halted_12 : decode cX4_halted 12 = .ok (.iconst 0, 1) := by decide +kernel
theorem dX4_halted_13 : decode cX4_halted 13 = .ok (.bipush 100, 2) := by decide +kernel
theorem dX4_halted_15 : decode cX4_halted 15 = .ok (.invokestatic 84, 3) := by decide +kernel
theorem dX4_halted_18 : decode cX4_halted 18 = .ok (.ifCond .ne 10, 3) := by decide +kernel
theorem dX4_halted_21 : decode cX4_halted 21 = .ok (.aload_n 0, 1) := by decide +kernel
theorem dX4_halted_22 : decode cX4_halted 22 = .ok (.ldc 57, 2) := by decide +kernel
theorem dX4_halted_24 : decode cX4_halted 24 = .ok (.invokevirtual 58, 3) := by decide +kernel
theorem dX4_halted_27 : decode cX4_halted 27 = .ok (.ireturn, 1) := by decide +kernel
theorem dX4_halted_28 : decode cX4_halted 28 = .ok (.aload_n 0, 1) := by decide +kernel
theorem dX4_halted_29 : decode cX4_halted 29 = .ok (.iconst 1, 1) := by decide +kernel
theorem dX4_halted_30 : decode cX4_halted 30 = .ok (.iload_n 1, 1) := by decide +kernel
theorem dX4_halted_31 : decode cX4_halted 31 = .ok (.ishl, 1) := by decide +kernel
theorem dX4_halted_32 : decode cX4_halted 32 = .ok (.iload_n 2, 1) := by decide +kernel
theorem dX4_halted_33 : decode cX4_halted 33 = .ok (.invokevirtual 204, 3) := by decide +kernel
theorem dX4_halted_36 : decode cX4_halted 36 = .ok (.invokestatic 131, 3) := by decide +kernel
theorem dX4_halted_39 : decode cX4_halted 39 = .ok (.ireturn, 1) := by decide +kernel
set_option maxHeartbeats 4000000 in
set_option maxRecDepth 100000 in
theorem g_X4_halted {E : fh_E} {M : fh_M} (C : fh_Cx E M cX4_halted 3 RX4 ((some FieldType.int)) rm_X4_halted) (Hr : fh_Rt E M) (k1 : Nat) (a2 : Int32) (a3 : Int32) (σ4 : fh_S) : fh_Go E M 3 fh_vI 0 [(0, .ref (fh_ad E k1)), (1, .int a2), (2, .int a3)] [] σ4 (f_X4_halted k1 a2 a3 σ4) := by
  have hok := fh_cok C
  refine go_ob ?_
  refine go_aload_n C 0 rfl rfl dX4_halted_0 ?_
  refine go_gr (ci := 4) (j := 0) C fh_in4 rfl (by decide) rfl q_138 dX4_halted_1 (fun k5 => ?_)
  refine go_iload_n C 1 rfl rfl dX4_halted_4 ?_
  refine go_callVI C (st := []) [.int a2] (m_X0_has E _ hok k5 a2 σ4) (fun _ h => fh_ob_ok h) rfl rfl ⟨q_196, q_197, q_198, q_2, q_199⟩ pd_X0_has rfl ⟨⟨Nat.le_of_ble_eq_true rfl, Nat.le_of_ble_eq_true rfl⟩, rfl, rfl⟩ (Nat.le_of_ble_eq_true rfl) dX4_halted_5 (fun r7 σ6 => ?_)
  refine go_jn (fun (j11 : fh_S → Option (Int32 × fh_S)) => ∀ (σ8 : fh_S), fh_Go E M 3 fh_vI 21 [(0, .ref (fh_ad E k1))] [] σ8 (j11 σ8)) ?_ (fun j11 hj11 => ?_)
  · intro σ8
    refine go_aload_n C 0 rfl rfl dX4_halted_21 ?_
    refine go_ldc C q_175 dX4_halted_22 ?_
    refine go_callVI C (st := []) [.int ((-1000001 : Int32))] (m_X4_tell E _ hok k1 ((-1000001 : Int32)) σ8) (fun _ h => fh_ob_ok h) rfl rfl ⟨q_176, q_178, qs_0, q_1, q_179⟩ pd_X4_tell rfl ⟨⟨Nat.le_of_ble_eq_true rfl, Nat.le_of_ble_eq_true rfl⟩, rfl, rfl⟩ (Nat.le_of_ble_eq_true rfl) dX4_halted_24 (fun r10 σ9 => ?_)
    exact go_iret C Hr rfl dX4_halted_27
  refine go_if_eq (tgt := 21) C dX4_halted_8 rfl (fun _ => ?_) (fun _ => ?_)
  · refine go_lv [0] (lv' := [(0, .ref (fh_ad E k1))]) rfl ?_
    exact hj11 σ6
  · refine go_iload_n C 2 rfl rfl dX4_halted_11 ?_
    refine go_iconst C (0 : Int32) dX4_halted_12 rfl ?_
    refine go_bipush C (100 : Int32) dX4_halted_13 rfl ?_
    refine go_callSI C (st := []) [.int a3, .int ((0 : Int32)), .int ((100 : Int32))] (m_X4_isWithin E _ hok a3 ((0 : Int32)) ((100 : Int32)) σ6) rfl ⟨q_172, q_173, q_1, q_174⟩ pd_X4_isWithin rfl ⟨⟨Nat.le_of_ble_eq_true rfl, Nat.le_of_ble_eq_true rfl⟩, rfl, rfl⟩ (Nat.le_of_ble_eq_true rfl) dX4_halted_15 (fun r13 σ12 => ?_)
    refine go_if_ne (tgt := 28) C dX4_halted_18 rfl (fun _ => ?_) (fun _ => ?_)
    · refine go_aload_n C 0 rfl rfl dX4_halted_28 ?_
      refine go_iconst C (1 : Int32) dX4_halted_29 rfl ?_
      refine go_iload_n C 1 rfl rfl dX4_halted_30 ?_
      refine go_ishl C dX4_halted_31 ?_
      refine go_iload_n C 2 rfl rfl dX4_halted_32 ?_
      refine go_callVI C (st := []) [.int (((1 : Int32)) <<< (a2 &&& 31)), .int a3] (m_X4_stillIfStopped E _ hok k1 (((1 : Int32)) <<< (a2 &&& 31)) a3 σ12) (fun _ h => fh_ob_ok h) rfl rfl ⟨q_478, q_480, qs_7, q_1, q_481⟩ pd_X4_stillIfStopped rfl ⟨⟨Nat.le_of_ble_eq_true rfl, Nat.le_of_ble_eq_true rfl⟩, rfl, rfl⟩ (Nat.le_of_ble_eq_true rfl) dX4_halted_33 (fun r15 σ14 => ?_)
      refine go_callSI C (st := []) [.int r15] (m_J6_bitCount_0f7a4 E _ hok r15 σ14) rfl ⟨q_312, q_307, q_8, q_308⟩ pd_J6_bitCount_0f7a4 rfl ⟨⟨Nat.le_of_ble_eq_true rfl, Nat.le_of_ble_eq_true rfl⟩, rfl, rfl⟩ (Nat.le_of_ble_eq_true rfl) dX4_halted_36 (fun r17 σ16 => ?_)
      exact go_iret C Hr rfl dX4_halted_39
    · refine go_lv [0] (lv' := [(0, .ref (fh_ad E k1))]) rfl ?_
      exact hj11 σ12
theorem m_X4_halted (E : fh_E) (l : Launch) (hok : fh_ok E) (k1 : Nat) (a2 : Int32) (a3 : Int32) (σ4 : fh_S) : fh_Met E l yX4_halted cX4_halted 3 ((some FieldType.int)) rm_X4_halted fh_vI [.ref (fh_ad E k1), .int a2, .int a3] σ4 (f_X4_halted k1 a2 a3 σ4) := fh_met hok (by decide +kernel) (Nat.le_of_ble_eq_true rfl) (fun M _ C Hr => g_X4_halted C Hr k1 a2 a3 σ4)
def f_X4_weakest_J62 (r10 : Int32 → Int32 → Int32 → fh_S → Option (Int32 × fh_S)) (x8 : Int32) : Int32 → Int32 → fh_S → Option (Int32 × fh_S) := fun x19 x20 σ21 => r10 x19 x20 (x8 + 1) σ21
def f_X4_weakest_B24 (k1 : Nat) (a2 : Int32) (r10 : Int32 → Int32 → Int32 → fh_S → Option (Int32 × fh_S)) : Int32 → Int32 → Int32 → fh_S → Option (Int32 × fh_S) := fun x6 x7 x8 σ9 => (fh_gr 4 k1 0).bind fun k11 => (fh_gi σ9 0 k11 9).bind fun v12 => if v12 ≤ x8 then if 0 ≤ x6 then some (x6, σ9) else fh_cb (f_X4_tell k1 ((-1000004 : Int32)) σ9) fun r14 σ13 => some (r14, σ13) else fh_cb (f_X4_stillIfStopped k1 (((1 : Int32)) <<< (x8 &&& 31)) a2 σ9) fun r16 σ15 => fh_cb (f_J6_bitCount_0f7a4 r16 σ15) fun r18 σ17 => fh_jn (f_X4_weakest_J62 r10 x8) (fun j22 => if r18 ≤ x7 then j22 x6 x7 σ17 else j22 x8 r18 σ17)
def f_X4_weakest (k1 : Nat) (a2 : Int32) (σ3 : fh_S) : Option (Int32 × fh_S) := fh_ob 4 k1 (fh_cb (f_X4_isWithin a2 ((0 : Int32)) ((100 : Int32)) σ3) fun r5 σ4 => if r5 = 0 then fh_cb (f_X4_tell k1 ((-1000001 : Int32)) σ4) fun r24 σ23 => some (r24, σ23) else fh_fx (ρ := Int32 → Int32 → Int32 → fh_S → Option (Int32 × fh_S)) (fun _ _ _ _ => none) (f_X4_weakest_B24 k1 a2) fh_fu ((-1 : Int32)) ((-1 : Int32)) ((0 : Int32)) σ4)
abbrev rm_X4_weakest : Room := { frames := 6, cells := 0, slots := 0, locals := 135 }
theorem pd_X4_weakest : yX4_weakest.cls ≠ "java/lang/invoke/MethodHandle" ∧ yX4_weakest.cls ≠ "java/lang/invoke/VarHandle" ∧ (parseMethodDescriptor yX4_weakest.desc).map (fun d => d.parameters.length) = some 1 := by decide +kernel
theorem dX4_weakest_0 : decode cX4_weakest 0 = .ok (.iload_n 1, 1) := by decide +kernel
theorem dX4_weakest_1 : decode cX4_weakest 1 = .ok (.iconst 0, 1) := by decide +kernel
theorem dX4_weakest_2 : decode cX4_weakest 2 = .ok (.bipush 100, 2) := by decide +kernel
theorem dX4_weakest_4 : decode cX4_weakest 4 = .ok (.invokestatic 84, 3) := by decide +kernel
theorem dX4_weakest_7 : decode cX4_weakest 7 = .ok (.ifCond .ne 10, 3) := by decide +kernel
theorem dX4_weakest_10 : decode cX4_weakest 10 = .ok (.aload_n 0, 1) := by decide +kernel
theorem dX4_weakest_11 : decode cX4_weakest 11 = .ok (.ldc 57, 2) := by decide +kernel
theorem dX4_weakest_13 : decode cX4_weakest 13 = .ok (.invokevirtual 58, 3) := by decide +kernel
theorem dX4_weakest_16 : decode cX4_weakest 16 = .ok (.ireturn, 1) := by decide +kernel
theorem dX4_weakest_17 : decode cX4_weakest 17 = .ok (.iconst (-1), 1) := by decide +kernel
theorem dX4_weakest_18 : decode cX4_weakest 18 = .ok (.istore_n 2, 1) := by decide +kernel
theorem dX4_weakest_19 : decode cX4_weakest 19 = .ok (.iconst (-1), 1) := by decide +kernel
theorem dX4_weakest_20 : decode cX4_weakest 20 = .ok (.istore_n 3, 1) := by decide +kernel
theorem dX4_weakest_21 : decode cX4_weakest 21 = .ok (.iconst 0, 1) := by decide +kernel
theorem dX4_weakest_22 : decode cX4_weakest 22 = .ok (.istore 4, 2) := by decide +kernel
theorem dX4_weakest_24 : decode cX4_weakest 24 = .ok (.iload 4, 2) := by decide +kernel
theorem dX4_weakest_26 : decode cX4_weakest 26 = .ok (.aload_n 0, 1) := by decide +kernel
theorem dX4_weakest_27 : decode cX4_weakest 27 = .ok (.getfield 12, 3) := by decide +kernel
theorem dX4_weakest_30 : decode cX4_weakest 30 = .ok (.getfield 136, 3) := by decide +kernel
theorem dX4_weakest_33 : decode cX4_weakest 33 = .ok (.if_icmp .ge 35, 3) := by decide +kernel
theorem dX4_weakest_36 : decode cX4_weakest 36 = .ok (.aload_n 0, 1) := by decide +kernel
theorem dX4_weakest_37 : decode cX4_weakest 37 = .ok (.iconst 1, 1) := by decide +kernel
theorem dX4_weakest_38 : decode cX4_weakest 38 = .ok (.iload 4, 2) := by decide +kernel
theorem dX4_weakest_40 : decode cX4_weakest 40 = .ok (.ishl, 1) := by decide +kernel
theorem dX4_weakest_41 : decode cX4_weakest 41 = .ok (.iload_n 1, 1) := by decide +kernel
theorem dX4_weakest_42 : decode cX4_weakest 42 = .ok (.invokevirtual 204, 3) := by decide +kernel
theorem dX4_weakest_45 : decode cX4_weakest 45 = .ok (.invokestatic 131, 3) := by decide +kernel
theorem dX4_weakest_48 : decode cX4_weakest 48 = .ok (.istore 5, 2) := by decide +kernel
theorem dX4_weakest_50 : decode cX4_weakest 50 = .ok (.iload 5, 2) := by decide +kernel
theorem dX4_weakest_52 : decode cX4_weakest 52 = .ok (.iload_n 3, 1) := by decide +kernel
theorem dX4_weakest_53 : decode cX4_weakest 53 = .ok (.if_icmp .le 9, 3) := by decide +kernel
theorem dX4_weakest_56 : decode cX4_weakest 56 = .ok (.iload 5, 2) := by decide +kernel
theorem dX4_weakest_58 : decode cX4_weakest 58 = .ok (.istore_n 3, 1) := by decide +kernel
theorem dX4_weakest_59 : decode cX4_weakest 59 = .ok (.iload 4, 2) := by decide +kernel
theorem dX4_weakest_61 : decode cX4_weakest 61 = .ok (.istore_n 2, 1) := by decide +kernel
theorem dX4_weakest_62 : decode cX4_weakest 62 = .ok (.iinc 4 1, 3) := by decide +kernel
theorem dX4_weakest_65 : decode cX4_weakest 65 = .ok (.goto (-41), 3) := by decide +kernel
theorem dX4_weakest_68 : decode cX4_weakest 68 = .ok (.iload_n 2, 1) := by decide +kernel
theorem dX4_weakest_69 : decode cX4_weakest 69 = .ok (.ifCond .ge 12, 3) := by decide +kernel
theorem dX4_weakest_72 : decode cX4_weakest 72 = .ok (.aload_n 0, 1) := by decide +kernel
theorem dX4_weakest_73 : decode cX4_weakest 73 = .ok (.ldc 154, 2) := by decide +kernel
theorem dX4_weakest_75 : decode cX4_weakest 75 = .ok (.invokevirtual 58, 3) := by decide +kernel
theorem dX4_weakest_78 : decode cX4_weakest 78 = .ok (.goto 4, 3) := by decide +kernel
theorem dX4_weakest_81 : decode cX4_weakest 81 = .ok (.iload_n 2, 1) := by decide +kernel
theorem dX4_weakest_82 : decode cX4_weakest 82 = .ok (.ireturn, 1) := by decide +kernel
set_option maxHeartbeats 4000000 in
set_option maxRecDepth 100000 in
theorem g_X4_weakest {E : fh_E} {M : fh_M} (C : fh_Cx E M cX4_weakest 6 RX4 ((some FieldType.int)) rm_X4_weakest) (Hr : fh_Rt E M) (k1 : Nat) (a2 : Int32) (σ3 : fh_S) : fh_Go E M 6 fh_vI 0 [(0, .ref (fh_ad E k1)), (1, .int a2)] [] σ3 (f_X4_weakest k1 a2 σ3) := by
  have hok := fh_cok C
  refine go_ob ?_
  refine go_iload_n C 1 rfl rfl dX4_weakest_0 ?_
  refine go_iconst C (0 : Int32) dX4_weakest_1 rfl ?_
  refine go_bipush C (100 : Int32) dX4_weakest_2 rfl ?_
  refine go_callSI C (st := []) [.int a2, .int ((0 : Int32)), .int ((100 : Int32))] (m_X4_isWithin E _ hok a2 ((0 : Int32)) ((100 : Int32)) σ3) rfl ⟨q_172, q_173, q_1, q_174⟩ pd_X4_isWithin rfl ⟨⟨Nat.le_of_ble_eq_true rfl, Nat.le_of_ble_eq_true rfl⟩, rfl, rfl⟩ (Nat.le_of_ble_eq_true rfl) dX4_weakest_4 (fun r5 σ4 => ?_)
  refine go_if_ne (tgt := 17) C dX4_weakest_7 rfl (fun _ => ?_) (fun _ => ?_)
  · refine go_iconst C (-1 : Int32) dX4_weakest_17 rfl ?_
    refine go_istore_n C [(2, .int ((-1 : Int32))), (0, .ref (fh_ad E k1)), (1, .int a2)] rfl rfl (by decide) dX4_weakest_18 ?_
    refine go_iconst C (-1 : Int32) dX4_weakest_19 rfl ?_
    refine go_istore_n C [(3, .int ((-1 : Int32))), (2, .int ((-1 : Int32))), (0, .ref (fh_ad E k1)), (1, .int a2)] rfl rfl (by decide) dX4_weakest_20 ?_
    refine go_iconst C (0 : Int32) dX4_weakest_21 rfl ?_
    refine go_istore C [(4, .int ((0 : Int32))), (3, .int ((-1 : Int32))), (2, .int ((-1 : Int32))), (0, .ref (fh_ad E k1)), (1, .int a2)] rfl (by decide) dX4_weakest_22 ?_
    refine go_lv [3, 4, 2, 1, 0] (lv' := [(0, .ref (fh_ad E k1)), (1, .int a2), (2, .int ((-1 : Int32))), (3, .int ((-1 : Int32))), (4, .int ((0 : Int32)))]) rfl ?_
    refine go_fx (fun (r10 : Int32 → Int32 → Int32 → fh_S → Option (Int32 × fh_S)) => ∀ (x6 : Int32) (x7 : Int32) (x8 : Int32) (σ9 : fh_S), fh_Go E M 6 fh_vI 24 [(0, .ref (fh_ad E k1)), (1, .int a2), (2, .int x6), (3, .int x7), (4, .int x8)] [] σ9 (r10 x6 x7 x8 σ9)) ?_ ?_ fh_fu ((-1 : Int32)) ((-1 : Int32)) ((0 : Int32)) σ4
    · intro x6 x7 x8 σ9
      exact go_none
    · intro r10 hr10 x6 x7 x8 σ9
      refine go_iload C 4 rfl dX4_weakest_24 ?_
      refine go_aload_n C 0 rfl rfl dX4_weakest_26 ?_
      refine go_gr (ci := 4) (j := 0) C fh_in4 rfl (by decide) rfl q_138 dX4_weakest_27 (fun k11 => ?_)
      refine go_gi (ci := 0) (j := 9) C fh_in0 rfl (by decide) rfl q_48 dX4_weakest_30 (fun v12 => ?_)
      refine go_icmp_ge (tgt := 68) C dX4_weakest_33 rfl (fun _ => ?_) (fun _ => ?_)
      · refine go_iload_n C 2 rfl rfl dX4_weakest_68 ?_
        refine go_if_ge (tgt := 81) C dX4_weakest_69 rfl (fun _ => ?_) (fun _ => ?_)
        · refine go_iload_n C 2 rfl rfl dX4_weakest_81 ?_
          exact go_iret C Hr rfl dX4_weakest_82
        · refine go_aload_n C 0 rfl rfl dX4_weakest_72 ?_
          refine go_ldc C q_369 dX4_weakest_73 ?_
          refine go_callVI C (st := []) [.int ((-1000004 : Int32))] (m_X4_tell E _ hok k1 ((-1000004 : Int32)) σ9) (fun _ h => fh_ob_ok h) rfl rfl ⟨q_176, q_178, qs_0, q_1, q_179⟩ pd_X4_tell rfl ⟨⟨Nat.le_of_ble_eq_true rfl, Nat.le_of_ble_eq_true rfl⟩, rfl, rfl⟩ (Nat.le_of_ble_eq_true rfl) dX4_weakest_75 (fun r14 σ13 => ?_)
          refine go_goto C 82 dX4_weakest_78 rfl ?_
          exact go_iret C Hr rfl dX4_weakest_82
      · refine go_aload_n C 0 rfl rfl dX4_weakest_36 ?_
        refine go_iconst C (1 : Int32) dX4_weakest_37 rfl ?_
        refine go_iload C 4 rfl dX4_weakest_38 ?_
        refine go_ishl C dX4_weakest_40 ?_
        refine go_iload_n C 1 rfl rfl dX4_weakest_41 ?_
        refine go_callVI C (st := []) [.int (((1 : Int32)) <<< (x8 &&& 31)), .int a2] (m_X4_stillIfStopped E _ hok k1 (((1 : Int32)) <<< (x8 &&& 31)) a2 σ9) (fun _ h => fh_ob_ok h) rfl rfl ⟨q_478, q_480, qs_7, q_1, q_481⟩ pd_X4_stillIfStopped rfl ⟨⟨Nat.le_of_ble_eq_true rfl, Nat.le_of_ble_eq_true rfl⟩, rfl, rfl⟩ (Nat.le_of_ble_eq_true rfl) dX4_weakest_42 (fun r16 σ15 => ?_)
        refine go_callSI C (st := []) [.int r16] (m_J6_bitCount_0f7a4 E _ hok r16 σ15) rfl ⟨q_312, q_307, q_8, q_308⟩ pd_J6_bitCount_0f7a4 rfl ⟨⟨Nat.le_of_ble_eq_true rfl, Nat.le_of_ble_eq_true rfl⟩, rfl, rfl⟩ (Nat.le_of_ble_eq_true rfl) dX4_weakest_45 (fun r18 σ17 => ?_)
        refine go_istore C [(5, .int r18), (0, .ref (fh_ad E k1)), (1, .int a2), (2, .int x6), (3, .int x7), (4, .int x8)] rfl (by decide) dX4_weakest_48 ?_
        refine go_iload C 0 rfl dX4_weakest_50 ?_
        refine go_iload_n C 4 rfl rfl dX4_weakest_52 ?_
        refine go_jn (fun (j22 : Int32 → Int32 → fh_S → Option (Int32 × fh_S)) => ∀ (x19 : Int32) (x20 : Int32) (σ21 : fh_S), fh_Go E M 6 fh_vI 62 [(0, .ref (fh_ad E k1)), (1, .int a2), (2, .int x19), (3, .int x20), (4, .int x8)] [] σ21 (j22 x19 x20 σ21)) ?_ (fun j22 hj22 => ?_)
        · intro x19 x20 σ21
          refine go_iinc C (x8 + 1) 4 [(4, .int (x8 + 1)), (0, .ref (fh_ad E k1)), (1, .int a2), (2, .int x19), (3, .int x20)] rfl rfl rfl (by decide) dX4_weakest_62 ?_
          refine go_goto C 24 dX4_weakest_65 rfl ?_
          refine go_lv [1, 2, 3, 4, 0] (lv' := [(0, .ref (fh_ad E k1)), (1, .int a2), (2, .int x19), (3, .int x20), (4, .int (x8 + 1))]) rfl ?_
          exact hr10 x19 x20 (x8 + 1) σ21
        refine go_icmp_le (tgt := 62) C dX4_weakest_53 rfl (fun _ => ?_) (fun _ => ?_)
        · refine go_lv [1, 2, 3, 4, 5] (lv' := [(0, .ref (fh_ad E k1)), (1, .int a2), (2, .int x6), (3, .int x7), (4, .int x8)]) rfl ?_
          exact hj22 x6 x7 σ17
        · refine go_iload C 0 rfl dX4_weakest_56 ?_
          refine go_istore_n C [(3, .int r18), (5, .int r18), (0, .ref (fh_ad E k1)), (1, .int a2), (2, .int x6), (4, .int x8)] rfl rfl (by decide) dX4_weakest_58 ?_
          refine go_iload C 5 rfl dX4_weakest_59 ?_
          refine go_istore_n C [(2, .int x8), (3, .int r18), (5, .int r18), (0, .ref (fh_ad E k1)), (1, .int a2), (4, .int x8)] rfl rfl (by decide) dX4_weakest_61 ?_
          refine go_lv [3, 4, 0, 1, 5] (lv' := [(0, .ref (fh_ad E k1)), (1, .int a2), (2, .int x8), (3, .int r18), (4, .int x8)]) rfl ?_
          exact hj22 x8 r18 σ17
  · refine go_aload_n C 0 rfl rfl dX4_weakest_10 ?_
    refine go_ldc C q_175 dX4_weakest_11 ?_
    refine go_callVI C (st := []) [.int ((-1000001 : Int32))] (m_X4_tell E _ hok k1 ((-1000001 : Int32)) σ4) (fun _ h => fh_ob_ok h) rfl rfl ⟨q_176, q_178, qs_0, q_1, q_179⟩ pd_X4_tell rfl ⟨⟨Nat.le_of_ble_eq_true rfl, Nat.le_of_ble_eq_true rfl⟩, rfl, rfl⟩ (Nat.le_of_ble_eq_true rfl) dX4_weakest_13 (fun r24 σ23 => ?_)
    exact go_iret C Hr rfl dX4_weakest_16
theorem m_X4_weakest (E : fh_E) (l : Launch) (hok : fh_ok E) (k1 : Nat) (a2 : Int32) (σ3 : fh_S) : fh_Met E l yX4_weakest cX4_weakest 6 ((some FieldType.int)) rm_X4_weakest fh_vI [.ref (fh_ad E k1), .int a2] σ3 (f_X4_weakest k1 a2 σ3) := fh_met hok (by decide +kernel) (Nat.le_of_ble_eq_true rfl) (fun M _ C Hr => g_X4_weakest C Hr k1 a2 σ3)
def f_X4_cut_J104 (r20 : Int32 → fh_S → Option (Int32 × fh_S)) (x18 : Int32) : fh_S → Option (Int32 × fh_S) := fun σ25 => r20 (x18 + 1) σ25
def f_X4_cut_J83 (r20 : Int32 → fh_S → Option (Int32 × fh_S)) (x18 : Int32) (k1 : Nat) (a2 : Int32) (v7 : Int32) : Int32 → fh_S → Option (Int32 × fh_S) := fun x23 σ24 => fh_jn (f_X4_cut_J104 r20 x18) (fun j26 => if x23 = 0 then j26 σ24 else fh_cb (f_X4_stillIfStopped k1 x18 a2 σ24) fun r28 σ27 => if r28 = ((((1 : Int32)) <<< (v7 &&& 31)) - ((1 : Int32))) then some (x18, σ27) else j26 σ27)
def f_X4_cut_J82 (j29 : Int32 → fh_S → Option (Int32 × fh_S)) : fh_S → Option (Int32 × fh_S) := fun σ30 => j29 ((0 : Int32)) σ30
def f_X4_cut_B55 (v7 : Int32) (r13 : Int32 → fh_S → Option (Int32 × fh_S)) (x11 : Int32) (k1 : Nat) (a2 : Int32) (r10 : Int32) (r20 : Int32 → fh_S → Option (Int32 × fh_S)) : Int32 → fh_S → Option (Int32 × fh_S) := fun x18 σ19 => if ((((1 : Int32)) <<< (v7 &&& 31)) - ((1 : Int32))) < x18 then r13 (x11 + 1) σ19 else fh_cb (f_J6_bitCount_0f7a4 x18 σ19) fun r22 σ21 => fh_jn (f_X4_cut_J83 r20 x18 k1 a2 v7) (fun j29 => fh_jn (f_X4_cut_J82 j29) (fun j31 => if r22 = x11 then if (x18 &&& r10) = 0 then j29 ((1 : Int32)) σ21 else j31 σ21 else j31 σ21))
def f_X4_cut_B40 (k1 : Nat) (v7 : Int32) (a2 : Int32) (r10 : Int32) (r13 : Int32 → fh_S → Option (Int32 × fh_S)) : Int32 → fh_S → Option (Int32 × fh_S) := fun x11 σ12 => (fh_gr 4 k1 0).bind fun k14 => (fh_gi σ12 0 k14 9).bind fun v15 => if v15 < x11 then fh_cb (f_X4_tell k1 ((-1000004 : Int32)) σ12) fun r17 σ16 => some (r17, σ16) else fh_fx (ρ := Int32 → fh_S → Option (Int32 × fh_S)) (fun _ _ => none) (f_X4_cut_B55 v7 r13 x11 k1 a2 r10) fh_fu ((0 : Int32)) σ12
def f_X4_cut (k1 : Nat) (a2 : Int32) (σ3 : fh_S) : Option (Int32 × fh_S) := fh_ob 4 k1 (fh_cb (f_X4_isWithin a2 ((0 : Int32)) ((100 : Int32)) σ3) fun r5 σ4 => if r5 = 0 then fh_cb (f_X4_tell k1 ((-1000001 : Int32)) σ4) fun r33 σ32 => some (r33, σ32) else (fh_gr 4 k1 0).bind fun k6 => (fh_gi σ4 0 k6 9).bind fun v7 => (fh_gr 4 k1 0).bind fun k8 => fh_cb (f_X0_stoppedSet k8 σ4) fun r10 σ9 => fh_fx (ρ := Int32 → fh_S → Option (Int32 × fh_S)) (fun _ _ => none) (f_X4_cut_B40 k1 v7 a2 r10) fh_fu ((0 : Int32)) σ9)
abbrev rm_X4_cut : Room := { frames := 6, cells := 0, slots := 0, locals := 135 }
theorem pd_X4_cut : yX4_cut.cls ≠ "java/lang/invoke/MethodHandle" ∧ yX4_cut.cls ≠ "java/lang/invoke/VarHandle" ∧ (parseMethodDescriptor yX4_cut.desc).map (fun d => d.parameters.length) = some 1 := by decide +kernel
theorem dX4_cut_0 : decode cX4_cut 0 = .ok (.iload_n 1, 1) := by decide +kernel
theorem dX4_cut_1 : decode cX4_cut 1 = .ok (.iconst 0, 1) := by decide +kernel
theorem dX4_cut_2 : decode cX4_cut 2 = .ok (.bipush 100, 2) := by decide +kernel
theorem dX4_cut_4 : decode cX4_cut 4 = .ok (.invokestatic 84, 3) := by decide +kernel
theorem dX4_cut_7 : decode cX4_cut 7 = .ok (.ifCond .ne 10, 3) := by decide +kernel
theorem dX4_cut_10 : decode cX4_cut 10 = .ok (.aload_n 0, 1) := by decide +kernel
theorem dX4_cut_11 : decode cX4_cut 11 = .ok (.ldc 57, 2) := by decide +kernel
theorem dX4_cut_13 : decode cX4_cut 13 = .ok (.invokevirtual 58, 3) := by decide +kernel
theorem dX4_cut_16 : decode cX4_cut 16 = .ok (.ireturn, 1) := by decide +kernel
theorem dX4_cut_17 : decode cX4_cut 17 = .ok (.iconst 1, 1) := by decide +kernel
theorem dX4_cut_18 : decode cX4_cut 18 = .ok (.aload_n 0, 1) := by decide +kernel
theorem dX4_cut_19 : decode cX4_cut 19 = .ok (.getfield 12, 3) := by decide +kernel
theorem dX4_cut_22 : decode cX4_cut 22 = .ok (.getfield 136, 3) := by decide +kernel
theorem dX4_cut_25 : decode cX4_cut 25 = .ok (.ishl, 1) := by decide +kernel
theorem dX4_cut_26 : decode cX4_cut 26 = .ok (.iconst 1, 1) := by decide +kernel
theorem dX4_cut_27 : decode cX4_cut 27 = .ok (.isub, 1) := by decide +kernel
theorem dX4_cut_28 : decode cX4_cut 28 = .ok (.istore_n 2, 1) := by decide +kernel
theorem dX4_cut_29 : decode cX4_cut 29 = .ok (.aload_n 0, 1) := by decide +kernel
theorem dX4_cut_30 : decode cX4_cut 30 = .ok (.getfield 12, 3) := by decide +kernel
theorem dX4_cut_33 : decode cX4_cut 33 = .ok (.invokevirtual 111, 3) := by decide +kernel
theorem dX4_cut_36 : decode cX4_cut 36 = .ok (.istore_n 3, 1) := by decide +kernel
theorem dX4_cut_37 : decode cX4_cut 37 = .ok (.iconst 0, 1) := by decide +kernel
theorem dX4_cut_38 : decode cX4_cut 38 = .ok (.istore 4, 2) := by decide +kernel
theorem dX4_cut_40 : decode cX4_cut 40 = .ok (.iload 4, 2) := by decide +kernel
theorem dX4_cut_42 : decode cX4_cut 42 = .ok (.aload_n 0, 1) := by decide +kernel
theorem dX4_cut_43 : decode cX4_cut 43 = .ok (.getfield 12, 3) := by decide +kernel
theorem dX4_cut_46 : decode cX4_cut 46 = .ok (.getfield 136, 3) := by decide +kernel
theorem dX4_cut_49 : decode cX4_cut 49 = .ok (.if_icmp .gt 67, 3) := by decide +kernel
theorem dX4_cut_52 : decode cX4_cut 52 = .ok (.iconst 0, 1) := by decide +kernel
theorem dX4_cut_53 : decode cX4_cut 53 = .ok (.istore 5, 2) := by decide +kernel
theorem dX4_cut_55 : decode cX4_cut 55 = .ok (.iload 5, 2) := by decide +kernel
theorem dX4_cut_57 : decode cX4_cut 57 = .ok (.iload_n 2, 1) := by decide +kernel
theorem dX4_cut_58 : decode cX4_cut 58 = .ok (.if_icmp .gt 52, 3) := by decide +kernel
theorem dX4_cut_61 : decode cX4_cut 61 = .ok (.iload 5, 2) := by decide +kernel
theorem dX4_cut_63 : decode cX4_cut 63 = .ok (.invokestatic 131, 3) := by decide +kernel
theorem dX4_cut_66 : decode cX4_cut 66 = .ok (.iload 4, 2) := by decide +kernel
theorem dX4_cut_68 : decode cX4_cut 68 = .ok (.if_icmp .ne 14, 3) := by decide +kernel
theorem dX4_cut_71 : decode cX4_cut 71 = .ok (.iload 5, 2) := by decide +kernel
theorem dX4_cut_73 : decode cX4_cut 73 = .ok (.iload_n 3, 1) := by decide +kernel
theorem dX4_cut_74 : decode cX4_cut 74 = .ok (.iand, 1) := by decide +kernel
theorem dX4_cut_75 : decode cX4_cut 75 = .ok (.ifCond .ne 7, 3) := by decide +kernel
theorem dX4_cut_78 : decode cX4_cut 78 = .ok (.iconst 1, 1) := by decide +kernel
theorem dX4_cut_79 : decode cX4_cut 79 = .ok (.goto 4, 3) := by decide +kernel
theorem dX4_cut_82 : decode cX4_cut 82 = .ok (.iconst 0, 1) := by decide +kernel
theorem dX4_cut_83 : decode cX4_cut 83 = .ok (.istore 6, 2) := by decide +kernel
theorem dX4_cut_85 : decode cX4_cut 85 = .ok (.iload 6, 2) := by decide +kernel
theorem dX4_cut_87 : decode cX4_cut 87 = .ok (.ifCond .eq 17, 3) := by decide +kernel
theorem dX4_cut_90 : decode cX4_cut 90 = .ok (.aload_n 0, 1) := by decide +kernel
theorem dX4_cut_91 : decode cX4_cut 91 = .ok (.iload 5, 2) := by decide +kernel
theorem dX4_cut_93 : decode cX4_cut 93 = .ok (.iload_n 1, 1) := by decide +kernel
theorem dX4_cut_94 : decode cX4_cut 94 = .ok (.invokevirtual 204, 3) := by decide +kernel
theorem dX4_cut_97 : decode cX4_cut 97 = .ok (.iload_n 2, 1) := by decide +kernel
theorem dX4_cut_98 : decode cX4_cut 98 = .ok (.if_icmp .ne 6, 3) := by decide +kernel
theorem dX4_cut_101 : decode cX4_cut 101 = .ok (.iload 5, 2) := by decide +kernel
theorem dX4_cut_103 : decode cX4_cut 103 = .ok (.ireturn, 1) := by decide +kernel
theorem dX4_cut_104 : decode cX4_cut 104 = .ok (.iinc 5 1, 3) := by decide +kernel
theorem dX4_cut_107 : decode cX4_cut 107 = .ok (.goto (-52), 3) := by decide +kernel
theorem dX4_cut_110 : decode cX4_cut 110 = .ok (.iinc 4 1, 3) := by decide +kernel
theorem dX4_cut_113 : decode cX4_cut 113 = .ok (.goto (-73), 3) := by decide +kernel
theorem dX4_cut_116 : decode cX4_cut 116 = .ok (.aload_n 0, 1) := by decide +kernel
theorem dX4_cut_117 : decode cX4_cut 117 = .ok (.ldc 154, 2) := by decide +kernel
theorem dX4_cut_119 : decode cX4_cut 119 = .ok (.invokevirtual 58, 3) := by decide +kernel
theorem dX4_cut_122 : decode cX4_cut 122 = .ok (.ireturn, 1) := by decide +kernel
set_option maxHeartbeats 4000000 in
set_option maxRecDepth 100000 in
theorem g_X4_cut {E : fh_E} {M : fh_M} (C : fh_Cx E M cX4_cut 7 RX4 ((some FieldType.int)) rm_X4_cut) (Hr : fh_Rt E M) (k1 : Nat) (a2 : Int32) (σ3 : fh_S) : fh_Go E M 7 fh_vI 0 [(0, .ref (fh_ad E k1)), (1, .int a2)] [] σ3 (f_X4_cut k1 a2 σ3) := by
  have hok := fh_cok C
  refine go_ob ?_
  refine go_iload_n C 1 rfl rfl dX4_cut_0 ?_
  refine go_iconst C (0 : Int32) dX4_cut_1 rfl ?_
  refine go_bipush C (100 : Int32) dX4_cut_2 rfl ?_
  refine go_callSI C (st := []) [.int a2, .int ((0 : Int32)), .int ((100 : Int32))] (m_X4_isWithin E _ hok a2 ((0 : Int32)) ((100 : Int32)) σ3) rfl ⟨q_172, q_173, q_1, q_174⟩ pd_X4_isWithin rfl ⟨⟨Nat.le_of_ble_eq_true rfl, Nat.le_of_ble_eq_true rfl⟩, rfl, rfl⟩ (Nat.le_of_ble_eq_true rfl) dX4_cut_4 (fun r5 σ4 => ?_)
  refine go_if_ne (tgt := 17) C dX4_cut_7 rfl (fun _ => ?_) (fun _ => ?_)
  · refine go_iconst C (1 : Int32) dX4_cut_17 rfl ?_
    refine go_aload_n C 0 rfl rfl dX4_cut_18 ?_
    refine go_gr (ci := 4) (j := 0) C fh_in4 rfl (by decide) rfl q_138 dX4_cut_19 (fun k6 => ?_)
    refine go_gi (ci := 0) (j := 9) C fh_in0 rfl (by decide) rfl q_48 dX4_cut_22 (fun v7 => ?_)
    refine go_ishl C dX4_cut_25 ?_
    refine go_iconst C (1 : Int32) dX4_cut_26 rfl ?_
    refine go_isub C dX4_cut_27 ?_
    refine go_istore_n C [(2, .int ((((1 : Int32)) <<< (v7 &&& 31)) - ((1 : Int32)))), (0, .ref (fh_ad E k1)), (1, .int a2)] rfl rfl (by decide) dX4_cut_28 ?_
    refine go_aload_n C 1 rfl rfl dX4_cut_29 ?_
    refine go_gr (ci := 4) (j := 0) C fh_in4 rfl (by decide) rfl q_138 dX4_cut_30 (fun k8 => ?_)
    refine go_callVI C (st := []) [] (m_X0_stoppedSet E _ hok k8 σ4) (fun _ h => fh_ob_ok h) rfl rfl ⟨q_282, q_283, q_284, q_2, q_285⟩ pd_X0_stoppedSet rfl ⟨⟨Nat.le_of_ble_eq_true rfl, Nat.le_of_ble_eq_true rfl⟩, rfl, rfl⟩ (Nat.le_of_ble_eq_true rfl) dX4_cut_33 (fun r10 σ9 => ?_)
    refine go_istore_n C [(3, .int r10), (2, .int ((((1 : Int32)) <<< (v7 &&& 31)) - ((1 : Int32)))), (0, .ref (fh_ad E k1)), (1, .int a2)] rfl rfl (by decide) dX4_cut_36 ?_
    refine go_iconst C (0 : Int32) dX4_cut_37 rfl ?_
    refine go_istore C [(4, .int ((0 : Int32))), (3, .int r10), (2, .int ((((1 : Int32)) <<< (v7 &&& 31)) - ((1 : Int32)))), (0, .ref (fh_ad E k1)), (1, .int a2)] rfl (by decide) dX4_cut_38 ?_
    refine go_lv [3, 4, 2, 1, 0] (lv' := [(0, .ref (fh_ad E k1)), (1, .int a2), (2, .int ((((1 : Int32)) <<< (v7 &&& 31)) - ((1 : Int32)))), (3, .int r10), (4, .int ((0 : Int32)))]) rfl ?_
    refine go_fx (fun (r13 : Int32 → fh_S → Option (Int32 × fh_S)) => ∀ (x11 : Int32) (σ12 : fh_S), fh_Go E M 7 fh_vI 40 [(0, .ref (fh_ad E k1)), (1, .int a2), (2, .int ((((1 : Int32)) <<< (v7 &&& 31)) - ((1 : Int32)))), (3, .int r10), (4, .int x11)] [] σ12 (r13 x11 σ12)) ?_ ?_ fh_fu ((0 : Int32)) σ9
    · intro x11 σ12
      exact go_none
    · intro r13 hr13 x11 σ12
      refine go_iload C 4 rfl dX4_cut_40 ?_
      refine go_aload_n C 0 rfl rfl dX4_cut_42 ?_
      refine go_gr (ci := 4) (j := 0) C fh_in4 rfl (by decide) rfl q_138 dX4_cut_43 (fun k14 => ?_)
      refine go_gi (ci := 0) (j := 9) C fh_in0 rfl (by decide) rfl q_48 dX4_cut_46 (fun v15 => ?_)
      refine go_icmp_gt (tgt := 116) C dX4_cut_49 rfl (fun _ => ?_) (fun _ => ?_)
      · refine go_aload_n C 0 rfl rfl dX4_cut_116 ?_
        refine go_ldc C q_369 dX4_cut_117 ?_
        refine go_callVI C (st := []) [.int ((-1000004 : Int32))] (m_X4_tell E _ hok k1 ((-1000004 : Int32)) σ12) (fun _ h => fh_ob_ok h) rfl rfl ⟨q_176, q_178, qs_0, q_1, q_179⟩ pd_X4_tell rfl ⟨⟨Nat.le_of_ble_eq_true rfl, Nat.le_of_ble_eq_true rfl⟩, rfl, rfl⟩ (Nat.le_of_ble_eq_true rfl) dX4_cut_119 (fun r17 σ16 => ?_)
        exact go_iret C Hr rfl dX4_cut_122
      · refine go_iconst C (0 : Int32) dX4_cut_52 rfl ?_
        refine go_istore C [(5, .int ((0 : Int32))), (0, .ref (fh_ad E k1)), (1, .int a2), (2, .int ((((1 : Int32)) <<< (v7 &&& 31)) - ((1 : Int32)))), (3, .int r10), (4, .int x11)] rfl (by decide) dX4_cut_53 ?_
        refine go_lv [1, 2, 3, 4, 5, 0] (lv' := [(0, .ref (fh_ad E k1)), (1, .int a2), (2, .int ((((1 : Int32)) <<< (v7 &&& 31)) - ((1 : Int32)))), (3, .int r10), (4, .int x11), (5, .int ((0 : Int32)))]) rfl ?_
        refine go_fx (fun (r20 : Int32 → fh_S → Option (Int32 × fh_S)) => ∀ (x18 : Int32) (σ19 : fh_S), fh_Go E M 7 fh_vI 55 [(0, .ref (fh_ad E k1)), (1, .int a2), (2, .int ((((1 : Int32)) <<< (v7 &&& 31)) - ((1 : Int32)))), (3, .int r10), (4, .int x11), (5, .int x18)] [] σ19 (r20 x18 σ19)) ?_ ?_ fh_fu ((0 : Int32)) σ12
        · intro x18 σ19
          exact go_none
        · intro r20 hr20 x18 σ19
          refine go_iload C 5 rfl dX4_cut_55 ?_
          refine go_iload_n C 2 rfl rfl dX4_cut_57 ?_
          refine go_icmp_gt (tgt := 110) C dX4_cut_58 rfl (fun _ => ?_) (fun _ => ?_)
          · refine go_iinc C (x11 + 1) 4 [(4, .int (x11 + 1)), (0, .ref (fh_ad E k1)), (1, .int a2), (2, .int ((((1 : Int32)) <<< (v7 &&& 31)) - ((1 : Int32)))), (3, .int r10), (5, .int x18)] rfl rfl rfl (by decide) dX4_cut_110 ?_
            refine go_goto C 40 dX4_cut_113 rfl ?_
            refine go_lv [1, 2, 3, 4, 0] (lv' := [(0, .ref (fh_ad E k1)), (1, .int a2), (2, .int ((((1 : Int32)) <<< (v7 &&& 31)) - ((1 : Int32)))), (3, .int r10), (4, .int (x11 + 1))]) rfl ?_
            exact hr13 (x11 + 1) σ19
          · refine go_iload C 5 rfl dX4_cut_61 ?_
            refine go_callSI C (st := []) [.int x18] (m_J6_bitCount_0f7a4 E _ hok x18 σ19) rfl ⟨q_312, q_307, q_8, q_308⟩ pd_J6_bitCount_0f7a4 rfl ⟨⟨Nat.le_of_ble_eq_true rfl, Nat.le_of_ble_eq_true rfl⟩, rfl, rfl⟩ (Nat.le_of_ble_eq_true rfl) dX4_cut_63 (fun r22 σ21 => ?_)
            refine go_iload C 4 rfl dX4_cut_66 ?_
            refine go_jn (fun (j29 : Int32 → fh_S → Option (Int32 × fh_S)) => ∀ (x23 : Int32) (σ24 : fh_S), fh_Go E M 7 fh_vI 83 [(0, .ref (fh_ad E k1)), (1, .int a2), (2, .int ((((1 : Int32)) <<< (v7 &&& 31)) - ((1 : Int32)))), (3, .int r10), (4, .int x11), (5, .int x18)] [.int x23] σ24 (j29 x23 σ24)) ?_ (fun j29 hj29 => ?_)
            · intro x23 σ24
              refine go_istore C [(6, .int x23), (0, .ref (fh_ad E k1)), (1, .int a2), (2, .int ((((1 : Int32)) <<< (v7 &&& 31)) - ((1 : Int32)))), (3, .int r10), (4, .int x11), (5, .int x18)] rfl (by decide) dX4_cut_83 ?_
              refine go_iload C 0 rfl dX4_cut_85 ?_
              refine go_jn (fun (j26 : fh_S → Option (Int32 × fh_S)) => ∀ (σ25 : fh_S), fh_Go E M 7 fh_vI 104 [(0, .ref (fh_ad E k1)), (1, .int a2), (2, .int ((((1 : Int32)) <<< (v7 &&& 31)) - ((1 : Int32)))), (3, .int r10), (4, .int x11), (5, .int x18)] [] σ25 (j26 σ25)) ?_ (fun j26 hj26 => ?_)
              · intro σ25
                refine go_iinc C (x18 + 1) 5 [(5, .int (x18 + 1)), (0, .ref (fh_ad E k1)), (1, .int a2), (2, .int ((((1 : Int32)) <<< (v7 &&& 31)) - ((1 : Int32)))), (3, .int r10), (4, .int x11)] rfl rfl rfl (by decide) dX4_cut_104 ?_
                refine go_goto C 55 dX4_cut_107 rfl ?_
                refine go_lv [1, 2, 3, 4, 5, 0] (lv' := [(0, .ref (fh_ad E k1)), (1, .int a2), (2, .int ((((1 : Int32)) <<< (v7 &&& 31)) - ((1 : Int32)))), (3, .int r10), (4, .int x11), (5, .int (x18 + 1))]) rfl ?_
                exact hr20 (x18 + 1) σ25
              refine go_if_eq (tgt := 104) C dX4_cut_87 rfl (fun _ => ?_) (fun _ => ?_)
              · refine go_lv [1, 2, 3, 4, 5, 6] (lv' := [(0, .ref (fh_ad E k1)), (1, .int a2), (2, .int ((((1 : Int32)) <<< (v7 &&& 31)) - ((1 : Int32)))), (3, .int r10), (4, .int x11), (5, .int x18)]) rfl ?_
                exact hj26 σ24
              · refine go_aload_n C 1 rfl rfl dX4_cut_90 ?_
                refine go_iload C 6 rfl dX4_cut_91 ?_
                refine go_iload_n C 2 rfl rfl dX4_cut_93 ?_
                refine go_callVI C (st := []) [.int x18, .int a2] (m_X4_stillIfStopped E _ hok k1 x18 a2 σ24) (fun _ h => fh_ob_ok h) rfl rfl ⟨q_478, q_480, qs_7, q_1, q_481⟩ pd_X4_stillIfStopped rfl ⟨⟨Nat.le_of_ble_eq_true rfl, Nat.le_of_ble_eq_true rfl⟩, rfl, rfl⟩ (Nat.le_of_ble_eq_true rfl) dX4_cut_94 (fun r28 σ27 => ?_)
                refine go_iload_n C 3 rfl rfl dX4_cut_97 ?_
                refine go_icmp_ne (tgt := 104) C dX4_cut_98 rfl (fun _ => ?_) (fun _ => ?_)
                · refine go_lv [1, 2, 3, 4, 5, 6] (lv' := [(0, .ref (fh_ad E k1)), (1, .int a2), (2, .int ((((1 : Int32)) <<< (v7 &&& 31)) - ((1 : Int32)))), (3, .int r10), (4, .int x11), (5, .int x18)]) rfl ?_
                  exact hj26 σ27
                · refine go_iload C 6 rfl dX4_cut_101 ?_
                  exact go_iret C Hr rfl dX4_cut_103
            refine go_jn (fun (j31 : fh_S → Option (Int32 × fh_S)) => ∀ (σ30 : fh_S), fh_Go E M 7 fh_vI 82 [(0, .ref (fh_ad E k1)), (1, .int a2), (2, .int ((((1 : Int32)) <<< (v7 &&& 31)) - ((1 : Int32)))), (3, .int r10), (4, .int x11), (5, .int x18)] [] σ30 (j31 σ30)) ?_ (fun j31 hj31 => ?_)
            · intro σ30
              refine go_iconst C (0 : Int32) dX4_cut_82 rfl ?_
              exact hj29 ((0 : Int32)) σ30
            refine go_icmp_ne (tgt := 82) C dX4_cut_68 rfl (fun _ => ?_) (fun _ => ?_)
            · exact hj31 σ21
            · refine go_iload C 5 rfl dX4_cut_71 ?_
              refine go_iload_n C 3 rfl rfl dX4_cut_73 ?_
              refine go_iand C dX4_cut_74 ?_
              refine go_if_ne (tgt := 82) C dX4_cut_75 rfl (fun _ => ?_) (fun _ => ?_)
              · exact hj31 σ21
              · refine go_iconst C (1 : Int32) dX4_cut_78 rfl ?_
                refine go_goto C 83 dX4_cut_79 rfl ?_
                exact hj29 ((1 : Int32)) σ21
  · refine go_aload_n C 0 rfl rfl dX4_cut_10 ?_
    refine go_ldc C q_175 dX4_cut_11 ?_
    refine go_callVI C (st := []) [.int ((-1000001 : Int32))] (m_X4_tell E _ hok k1 ((-1000001 : Int32)) σ4) (fun _ h => fh_ob_ok h) rfl rfl ⟨q_176, q_178, qs_0, q_1, q_179⟩ pd_X4_tell rfl ⟨⟨Nat.le_of_ble_eq_true rfl, Nat.le_of_ble_eq_true rfl⟩, rfl, rfl⟩ (Nat.le_of_ble_eq_true rfl) dX4_cut_13 (fun r33 σ32 => ?_)
    exact go_iret C Hr rfl dX4_cut_16
theorem m_X4_cut (E : fh_E) (l : Launch) (hok : fh_ok E) (k1 : Nat) (a2 : Int32) (σ3 : fh_S) : fh_Met E l yX4_cut cX4_cut 7 ((some FieldType.int)) rm_X4_cut fh_vI [.ref (fh_ad E k1), .int a2] σ3 (f_X4_cut k1 a2 σ3) := fh_met hok (by decide +kernel) (Nat.le_of_ble_eq_true rfl) (fun M _ C Hr => g_X4_cut C Hr k1 a2 σ3)
def f_X4_frosts_J80 (r18 : Int32 → fh_S → Option (Int32 × fh_S)) (x16 : Int32) : fh_S → Option (Int32 × fh_S) := fun σ26 => r18 (x16 + 1) σ26
def f_X4_frosts_B47 (k1 : Nat) (r10 : Int32 → fh_S → Option (Int32 × fh_S)) (x8 : Int32) (r18 : Int32 → fh_S → Option (Int32 × fh_S)) : Int32 → fh_S → Option (Int32 × fh_S) := fun x16 σ17 => (fh_gr 4 k1 0).bind fun k19 => (fh_gi σ17 0 k19 9).bind fun v20 => if v20 ≤ x16 then (fh_gr 4 k1 0).bind fun k21 => fh_cb (f_X0_passTick k21 σ17) fun _ σ22 => r10 (x8 + 1) σ22 else (fh_gr 4 k1 0).bind fun k23 => fh_cb (f_X0_draw k23 σ17) fun r25 σ24 => fh_jn (f_X4_frosts_J80 r18 x16) (fun j27 => if (r25 - r25 / ((16 : Int32)) * ((16 : Int32))) = 0 then (fh_gr 4 k1 0).bind fun k28 => fh_cb (f_X0_freeze k28 x16 σ24) fun r30 σ29 => j27 σ29 else j27 σ24)
def f_X4_frosts_B40 (a2 : Int32) (k1 : Nat) (r10 : Int32 → fh_S → Option (Int32 × fh_S)) : Int32 → fh_S → Option (Int32 × fh_S) := fun x8 σ9 => if a2 ≤ x8 then (fh_gr 4 k1 0).bind fun k11 => fh_cb (f_X0_stoppedSet k11 σ9) fun r13 σ12 => fh_cb (f_J6_bitCount_0f7a4 r13 σ12) fun r15 σ14 => some (r15, σ14) else fh_fx (ρ := Int32 → fh_S → Option (Int32 × fh_S)) (fun _ _ => none) (f_X4_frosts_B47 k1 r10 x8) fh_fu ((0 : Int32)) σ9
def f_X4_frosts (k1 : Nat) (a2 : Int32) (σ3 : fh_S) : Option (Int32 × fh_S) := fh_ob 4 k1 (fh_cb (f_X4_isWithin a2 ((1 : Int32)) ((20 : Int32)) σ3) fun r5 σ4 => if r5 = 0 then fh_cb (f_X4_tell k1 ((-1000001 : Int32)) σ4) fun r34 σ33 => some (r34, σ33) else (fh_gr 4 k1 0).bind fun k6 => (fh_gi σ4 0 k6 10).bind fun v7 => if v7 ≤ (((99999 : Int32)) - a2) then fh_fx (ρ := Int32 → fh_S → Option (Int32 × fh_S)) (fun _ _ => none) (f_X4_frosts_B40 a2 k1) fh_fu ((0 : Int32)) σ4 else fh_cb (f_X4_tell k1 ((-1000005 : Int32)) σ4) fun r32 σ31 => some (r32, σ31))
abbrev rm_X4_frosts : Room := { frames := 4, cells := 0, slots := 0, locals := 89 }
theorem pd_X4_frosts : yX4_frosts.cls ≠ "java/lang/invoke/MethodHandle" ∧ yX4_frosts.cls ≠ "java/lang/invoke/VarHandle" ∧ (parseMethodDescriptor yX4_frosts.desc).map (fun d => d.parameters.length) = some 1 := by decide +kernel
theorem dX4_frosts_0 : decode cX4_frosts 0 = .ok (.iload_n 1, 1) := by decide +kernel
theorem dX4_frosts_1 : decode cX4_frosts 1 = .ok (.iconst 1, 1) := by decide +kernel
theorem dX4_frosts_2 : decode cX4_frosts 2 = .ok (.bipush 20, 2) := by decide +kernel
theorem dX4_frosts_4 : decode cX4_frosts 4 = .ok (.invokestatic 84, 3) := by decide +kernel
theorem dX4_frosts_7 : decode cX4_frosts 7 = .ok (.ifCond .ne 10, 3) := by decide +kernel
theorem dX4_frosts_10 : decode cX4_frosts 10 = .ok (.aload_n 0, 1) := by decide +kernel
theorem dX4_frosts_11 : decode cX4_frosts 11 = .ok (.ldc 57, 2) := by decide +kernel
theorem dX4_frosts_13 : decode cX4_frosts 13 = .ok (.invokevirtual 58, 3) := by decide +kernel
theorem dX4_frosts_16 : decode cX4_frosts 16 = .ok (.ireturn, 1) := by decide +kernel
theorem dX4_frosts_17 : decode cX4_frosts 17 = .ok (.aload_n 0, 1) := by decide +kernel
theorem dX4_frosts_18 : decode cX4_frosts 18 = .ok (.getfield 12, 3) := by decide +kernel
theorem dX4_frosts_21 : decode cX4_frosts 21 = .ok (.getfield 101, 3) := by decide +kernel
theorem dX4_frosts_24 : decode cX4_frosts 24 = .ok (.ldc 105, 2) := by decide +kernel
theorem dX4_frosts_26 : decode cX4_frosts 26 = .ok (.iload_n 1, 1) := by decide +kernel
theorem dX4_frosts_27 : decode cX4_frosts 27 = .ok (.isub, 1) := by decide +kernel
theorem dX4_frosts_28 : decode cX4_frosts 28 = .ok (.if_icmp .le 10, 3) := by decide +kernel
theorem dX4_frosts_31 : decode cX4_frosts 31 = .ok (.aload_n 0, 1) := by decide +kernel
theorem dX4_frosts_32 : decode cX4_frosts 32 = .ok (.ldc 106, 2) := by decide +kernel
theorem dX4_frosts_34 : decode cX4_frosts 34 = .ok (.invokevirtual 58, 3) := by decide +kernel
theorem dX4_frosts_37 : decode cX4_frosts 37 = .ok (.ireturn, 1) := by decide +kernel
theorem dX4_frosts_38 : decode cX4_frosts 38 = .ok (.iconst 0, 1) := by decide +kernel
theorem dX4_frosts_39 : decode cX4_frosts 39 = .ok (.istore_n 2, 1) := by decide +kernel
theorem dX4_frosts_40 : decode cX4_frosts 40 = .ok (.iload_n 2, 1) := by decide +kernel
theorem dX4_frosts_41 : decode cX4_frosts 41 = .ok (.iload_n 1, 1) := by decide +kernel
theorem dX4_frosts_42 : decode cX4_frosts 42 = .ok (.if_icmp .ge 57, 3) := by decide +kernel
theorem dX4_frosts_45 : decode cX4_frosts 45 = .ok (.iconst 0, 1) := by decide +kernel
theorem dX4_frosts_46 : decode cX4_frosts 46 = .ok (.istore_n 3, 1) := by decide +kernel
theorem dX4_frosts_47 : decode cX4_frosts 47 = .ok (.iload_n 3, 1) := by decide +kernel
theorem dX4_frosts_48 : decode cX4_frosts 48 = .ok (.aload_n 0, 1) := by decide +kernel
theorem dX4_frosts_49 : decode cX4_frosts 49 = .ok (.getfield 12, 3) := by decide +kernel
theorem dX4_frosts_52 : decode cX4_frosts 52 = .ok (.getfield 136, 3) := by decide +kernel
theorem dX4_frosts_55 : decode cX4_frosts 55 = .ok (.if_icmp .ge 31, 3) := by decide +kernel
theorem dX4_frosts_58 : decode cX4_frosts 58 = .ok (.aload_n 0, 1) := by decide +kernel
theorem dX4_frosts_59 : decode cX4_frosts 59 = .ok (.getfield 12, 3) := by decide +kernel
theorem dX4_frosts_62 : decode cX4_frosts 62 = .ok (.invokevirtual 207, 3) := by decide +kernel
theorem dX4_frosts_65 : decode cX4_frosts 65 = .ok (.bipush 16, 2) := by decide +kernel
theorem dX4_frosts_67 : decode cX4_frosts 67 = .ok (.irem, 1) := by decide +kernel
theorem dX4_frosts_68 : decode cX4_frosts 68 = .ok (.ifCond .ne 12, 3) := by decide +kernel
theorem dX4_frosts_71 : decode cX4_frosts 71 = .ok (.aload_n 0, 1) := by decide +kernel
theorem dX4_frosts_72 : decode cX4_frosts 72 = .ok (.getfield 12, 3) := by decide +kernel
theorem dX4_frosts_75 : decode cX4_frosts 75 = .ok (.iload_n 3, 1) := by decide +kernel
theorem dX4_frosts_76 : decode cX4_frosts 76 = .ok (.invokevirtual 95, 3) := by decide +kernel
theorem dX4_frosts_79 : decode cX4_frosts 79 = .ok (.pop, 1) := by decide +kernel
theorem dX4_frosts_80 : decode cX4_frosts 80 = .ok (.iinc 3 1, 3) := by decide +kernel
theorem dX4_frosts_83 : decode cX4_frosts 83 = .ok (.goto (-36), 3) := by decide +kernel
theorem dX4_frosts_86 : decode cX4_frosts 86 = .ok (.aload_n 0, 1) := by decide +kernel
theorem dX4_frosts_87 : decode cX4_frosts 87 = .ok (.getfield 12, 3) := by decide +kernel
theorem dX4_frosts_90 : decode cX4_frosts 90 = .ok (.invokevirtual 165, 3) := by decide +kernel
theorem dX4_frosts_93 : decode cX4_frosts 93 = .ok (.iinc 2 1, 3) := by decide +kernel
theorem dX4_frosts_96 : decode cX4_frosts 96 = .ok (.goto (-56), 3) := by decide +kernel
theorem dX4_frosts_99 : decode cX4_frosts 99 = .ok (.aload_n 0, 1) := by decide +kernel
theorem dX4_frosts_100 : decode cX4_frosts 100 = .ok (.getfield 12, 3) := by decide +kernel
theorem dX4_frosts_103 : decode cX4_frosts 103 = .ok (.invokevirtual 111, 3) := by decide +kernel
theorem dX4_frosts_106 : decode cX4_frosts 106 = .ok (.invokestatic 131, 3) := by decide +kernel
theorem dX4_frosts_109 : decode cX4_frosts 109 = .ok (.ireturn, 1) := by decide +kernel
set_option maxHeartbeats 4000000 in
set_option maxRecDepth 100000 in
theorem g_X4_frosts {E : fh_E} {M : fh_M} (C : fh_Cx E M cX4_frosts 4 RX4 ((some FieldType.int)) rm_X4_frosts) (Hr : fh_Rt E M) (k1 : Nat) (a2 : Int32) (σ3 : fh_S) : fh_Go E M 4 fh_vI 0 [(0, .ref (fh_ad E k1)), (1, .int a2)] [] σ3 (f_X4_frosts k1 a2 σ3) := by
  have hok := fh_cok C
  refine go_ob ?_
  refine go_iload_n C 1 rfl rfl dX4_frosts_0 ?_
  refine go_iconst C (1 : Int32) dX4_frosts_1 rfl ?_
  refine go_bipush C (20 : Int32) dX4_frosts_2 rfl ?_
  refine go_callSI C (st := []) [.int a2, .int ((1 : Int32)), .int ((20 : Int32))] (m_X4_isWithin E _ hok a2 ((1 : Int32)) ((20 : Int32)) σ3) rfl ⟨q_172, q_173, q_1, q_174⟩ pd_X4_isWithin rfl ⟨⟨Nat.le_of_ble_eq_true rfl, Nat.le_of_ble_eq_true rfl⟩, rfl, rfl⟩ (Nat.le_of_ble_eq_true rfl) dX4_frosts_4 (fun r5 σ4 => ?_)
  refine go_if_ne (tgt := 17) C dX4_frosts_7 rfl (fun _ => ?_) (fun _ => ?_)
  · refine go_aload_n C 0 rfl rfl dX4_frosts_17 ?_
    refine go_gr (ci := 4) (j := 0) C fh_in4 rfl (by decide) rfl q_138 dX4_frosts_18 (fun k6 => ?_)
    refine go_gi (ci := 0) (j := 10) C fh_in0 rfl (by decide) rfl q_50 dX4_frosts_21 (fun v7 => ?_)
    refine go_ldc C q_265 dX4_frosts_24 ?_
    refine go_iload_n C 1 rfl rfl dX4_frosts_26 ?_
    refine go_isub C dX4_frosts_27 ?_
    refine go_icmp_le (tgt := 38) C dX4_frosts_28 rfl (fun _ => ?_) (fun _ => ?_)
    · refine go_iconst C (0 : Int32) dX4_frosts_38 rfl ?_
      refine go_istore_n C [(2, .int ((0 : Int32))), (0, .ref (fh_ad E k1)), (1, .int a2)] rfl rfl (by decide) dX4_frosts_39 ?_
      refine go_lv [1, 2, 0] (lv' := [(0, .ref (fh_ad E k1)), (1, .int a2), (2, .int ((0 : Int32)))]) rfl ?_
      refine go_fx (fun (r10 : Int32 → fh_S → Option (Int32 × fh_S)) => ∀ (x8 : Int32) (σ9 : fh_S), fh_Go E M 4 fh_vI 40 [(0, .ref (fh_ad E k1)), (1, .int a2), (2, .int x8)] [] σ9 (r10 x8 σ9)) ?_ ?_ fh_fu ((0 : Int32)) σ4
      · intro x8 σ9
        exact go_none
      · intro r10 hr10 x8 σ9
        refine go_iload_n C 2 rfl rfl dX4_frosts_40 ?_
        refine go_iload_n C 1 rfl rfl dX4_frosts_41 ?_
        refine go_icmp_ge (tgt := 99) C dX4_frosts_42 rfl (fun _ => ?_) (fun _ => ?_)
        · refine go_aload_n C 0 rfl rfl dX4_frosts_99 ?_
          refine go_gr (ci := 4) (j := 0) C fh_in4 rfl (by decide) rfl q_138 dX4_frosts_100 (fun k11 => ?_)
          refine go_callVI C (st := []) [] (m_X0_stoppedSet E _ hok k11 σ9) (fun _ h => fh_ob_ok h) rfl rfl ⟨q_282, q_283, q_284, q_2, q_285⟩ pd_X0_stoppedSet rfl ⟨⟨Nat.le_of_ble_eq_true rfl, Nat.le_of_ble_eq_true rfl⟩, rfl, rfl⟩ (Nat.le_of_ble_eq_true rfl) dX4_frosts_103 (fun r13 σ12 => ?_)
          refine go_callSI C (st := []) [.int r13] (m_J6_bitCount_0f7a4 E _ hok r13 σ12) rfl ⟨q_312, q_307, q_8, q_308⟩ pd_J6_bitCount_0f7a4 rfl ⟨⟨Nat.le_of_ble_eq_true rfl, Nat.le_of_ble_eq_true rfl⟩, rfl, rfl⟩ (Nat.le_of_ble_eq_true rfl) dX4_frosts_106 (fun r15 σ14 => ?_)
          exact go_iret C Hr rfl dX4_frosts_109
        · refine go_iconst C (0 : Int32) dX4_frosts_45 rfl ?_
          refine go_istore_n C [(3, .int ((0 : Int32))), (0, .ref (fh_ad E k1)), (1, .int a2), (2, .int x8)] rfl rfl (by decide) dX4_frosts_46 ?_
          refine go_lv [1, 2, 3, 0] (lv' := [(0, .ref (fh_ad E k1)), (1, .int a2), (2, .int x8), (3, .int ((0 : Int32)))]) rfl ?_
          refine go_fx (fun (r18 : Int32 → fh_S → Option (Int32 × fh_S)) => ∀ (x16 : Int32) (σ17 : fh_S), fh_Go E M 4 fh_vI 47 [(0, .ref (fh_ad E k1)), (1, .int a2), (2, .int x8), (3, .int x16)] [] σ17 (r18 x16 σ17)) ?_ ?_ fh_fu ((0 : Int32)) σ9
          · intro x16 σ17
            exact go_none
          · intro r18 hr18 x16 σ17
            refine go_iload_n C 3 rfl rfl dX4_frosts_47 ?_
            refine go_aload_n C 0 rfl rfl dX4_frosts_48 ?_
            refine go_gr (ci := 4) (j := 0) C fh_in4 rfl (by decide) rfl q_138 dX4_frosts_49 (fun k19 => ?_)
            refine go_gi (ci := 0) (j := 9) C fh_in0 rfl (by decide) rfl q_48 dX4_frosts_52 (fun v20 => ?_)
            refine go_icmp_ge (tgt := 86) C dX4_frosts_55 rfl (fun _ => ?_) (fun _ => ?_)
            · refine go_aload_n C 0 rfl rfl dX4_frosts_86 ?_
              refine go_gr (ci := 4) (j := 0) C fh_in4 rfl (by decide) rfl q_138 dX4_frosts_87 (fun k21 => ?_)
              refine go_callVU C (st := []) [] (m_X0_passTick E _ hok k21 σ17) (fun _ h => fh_ob_ok h) rfl rfl ⟨q_394, q_272, q_273, q_2, q_274⟩ pd_X0_passTick rfl ⟨⟨Nat.le_of_ble_eq_true rfl, Nat.le_of_ble_eq_true rfl⟩, rfl, rfl⟩ (Nat.le_of_ble_eq_true rfl) dX4_frosts_90 (fun _ σ22 => ?_)
              refine go_iinc C (x8 + 1) 2 [(2, .int (x8 + 1)), (0, .ref (fh_ad E k1)), (1, .int a2), (3, .int x16)] rfl rfl rfl (by decide) dX4_frosts_93 ?_
              refine go_goto C 40 dX4_frosts_96 rfl ?_
              refine go_lv [1, 2, 0] (lv' := [(0, .ref (fh_ad E k1)), (1, .int a2), (2, .int (x8 + 1))]) rfl ?_
              exact hr10 (x8 + 1) σ22
            · refine go_aload_n C 0 rfl rfl dX4_frosts_58 ?_
              refine go_gr (ci := 4) (j := 0) C fh_in4 rfl (by decide) rfl q_138 dX4_frosts_59 (fun k23 => ?_)
              refine go_callVI C (st := []) [] (m_X0_draw E _ hok k23 σ17) (fun _ h => fh_ob_ok h) rfl rfl ⟨q_501, q_502, q_503, q_2, q_504⟩ pd_X0_draw rfl ⟨⟨Nat.le_of_ble_eq_true rfl, Nat.le_of_ble_eq_true rfl⟩, rfl, rfl⟩ (Nat.le_of_ble_eq_true rfl) dX4_frosts_62 (fun r25 σ24 => ?_)
              refine go_bipush C (16 : Int32) dX4_frosts_65 rfl ?_
              refine go_irem C dX4_frosts_67 (by decide) ?_
              refine go_jn (fun (j27 : fh_S → Option (Int32 × fh_S)) => ∀ (σ26 : fh_S), fh_Go E M 4 fh_vI 80 [(0, .ref (fh_ad E k1)), (1, .int a2), (2, .int x8), (3, .int x16)] [] σ26 (j27 σ26)) ?_ (fun j27 hj27 => ?_)
              · intro σ26
                refine go_iinc C (x16 + 1) 3 [(3, .int (x16 + 1)), (0, .ref (fh_ad E k1)), (1, .int a2), (2, .int x8)] rfl rfl rfl (by decide) dX4_frosts_80 ?_
                refine go_goto C 47 dX4_frosts_83 rfl ?_
                refine go_lv [1, 2, 3, 0] (lv' := [(0, .ref (fh_ad E k1)), (1, .int a2), (2, .int x8), (3, .int (x16 + 1))]) rfl ?_
                exact hr18 (x16 + 1) σ26
              refine go_if_ne (tgt := 80) C dX4_frosts_68 rfl (fun _ => ?_) (fun _ => ?_)
              · exact hj27 σ24
              · refine go_aload_n C 0 rfl rfl dX4_frosts_71 ?_
                refine go_gr (ci := 4) (j := 0) C fh_in4 rfl (by decide) rfl q_138 dX4_frosts_72 (fun k28 => ?_)
                refine go_iload_n C 3 rfl rfl dX4_frosts_75 ?_
                refine go_callVI C (st := []) [.int x16] (m_X0_freeze E _ hok k28 x16 σ24) (fun _ h => fh_ob_ok h) rfl rfl ⟨q_253, q_254, q_255, q_2, q_256⟩ pd_X0_freeze rfl ⟨⟨Nat.le_of_ble_eq_true rfl, Nat.le_of_ble_eq_true rfl⟩, rfl, rfl⟩ (Nat.le_of_ble_eq_true rfl) dX4_frosts_76 (fun r30 σ29 => ?_)
                refine go_pop C rfl dX4_frosts_79 ?_
                exact hj27 σ29
    · refine go_aload_n C 0 rfl rfl dX4_frosts_31 ?_
      refine go_ldc C q_266 dX4_frosts_32 ?_
      refine go_callVI C (st := []) [.int ((-1000005 : Int32))] (m_X4_tell E _ hok k1 ((-1000005 : Int32)) σ4) (fun _ h => fh_ob_ok h) rfl rfl ⟨q_176, q_178, qs_0, q_1, q_179⟩ pd_X4_tell rfl ⟨⟨Nat.le_of_ble_eq_true rfl, Nat.le_of_ble_eq_true rfl⟩, rfl, rfl⟩ (Nat.le_of_ble_eq_true rfl) dX4_frosts_34 (fun r32 σ31 => ?_)
      exact go_iret C Hr rfl dX4_frosts_37
  · refine go_aload_n C 0 rfl rfl dX4_frosts_10 ?_
    refine go_ldc C q_175 dX4_frosts_11 ?_
    refine go_callVI C (st := []) [.int ((-1000001 : Int32))] (m_X4_tell E _ hok k1 ((-1000001 : Int32)) σ4) (fun _ h => fh_ob_ok h) rfl rfl ⟨q_176, q_178, qs_0, q_1, q_179⟩ pd_X4_tell rfl ⟨⟨Nat.le_of_ble_eq_true rfl, Nat.le_of_ble_eq_true rfl⟩, rfl, rfl⟩ (Nat.le_of_ble_eq_true rfl) dX4_frosts_13 (fun r34 σ33 => ?_)
    exact go_iret C Hr rfl dX4_frosts_16
theorem m_X4_frosts (E : fh_E) (l : Launch) (hok : fh_ok E) (k1 : Nat) (a2 : Int32) (σ3 : fh_S) : fh_Met E l yX4_frosts cX4_frosts 4 ((some FieldType.int)) rm_X4_frosts fh_vI [.ref (fh_ad E k1), .int a2] σ3 (f_X4_frosts k1 a2 σ3) := fh_met hok (by decide +kernel) (Nat.le_of_ble_eq_true rfl) (fun M _ C Hr => g_X4_frosts C Hr k1 a2 σ3)
def f_X4_odds_J19 (k1 : Nat) : fh_S → Option (Int64 × fh_S) := fun σ7 => fh_cb (f_X4_tell k1 ((-1000001 : Int32)) σ7) fun r9 σ8 => some (r9.toInt64, σ8)
def f_X4_odds_B45 (a2 : Int32) (x13 : Int32) (r18 : Int64 → Int32 → fh_S → Option (Int64 × fh_S)) : Int64 → Int32 → fh_S → Option (Int64 × fh_S) := fun x15 x16 σ17 => if a2 ≤ x16 then some (x15, σ17) else r18 (x15 * x13.toInt64) (x16 + 1) σ17
def f_X4_odds_J38 (a2 : Int32) : Int32 → fh_S → Option (Int64 × fh_S) := fun x13 σ14 => fh_fx (ρ := Int64 → Int32 → fh_S → Option (Int64 × fh_S)) (fun _ _ _ => none) (f_X4_odds_B45 a2 x13) fh_fu ((1 : Int64)) ((0 : Int32)) σ14
def f_X4_odds (k1 : Nat) (a2 : Int32) (a3 : Int32) (σ4 : fh_S) : Option (Int64 × fh_S) := fh_ob 4 k1 (fh_cb (f_X4_isWithin a2 ((0 : Int32)) ((14 : Int32)) σ4) fun r6 σ5 => fh_jn (f_X4_odds_J19 k1) (fun j10 => if r6 = 0 then j10 σ5 else fh_cb (f_X4_isWithin a3 ((0 : Int32)) ((1 : Int32)) σ5) fun r12 σ11 => if r12 = 0 then j10 σ11 else fh_jn (f_X4_odds_J38 a2) (fun j19 => if a3 = 0 then j19 ((15 : Int32)) σ11 else j19 ((16 : Int32)) σ11)))
abbrev rm_X4_odds : Room := { frames := 2, cells := 0, slots := 0, locals := 44 }
theorem pd_X4_odds : yX4_odds.cls ≠ "java/lang/invoke/MethodHandle" ∧ yX4_odds.cls ≠ "java/lang/invoke/VarHandle" ∧ (parseMethodDescriptor yX4_odds.desc).map (fun d => d.parameters.length) = some 2 := by decide +kernel
theorem dX4_odds_0 : decode cX4_odds 0 = .ok (.iload_n 1, 1) := by decide +kernel
theorem dX4_odds_1 : decode cX4_odds 1 = .ok (.iconst 0, 1) := by decide +kernel
theorem dX4_odds_2 : decode cX4_odds 2 = .ok (.bipush 14, 2) := by decide +kernel
theorem dX4_odds_4 : decode cX4_odds 4 = .ok (.invokestatic 84, 3) := by decide +kernel
theorem dX4_odds_7 : decode cX4_odds 7 = .ok (.ifCond .eq 12, 3) := by decide +kernel
theorem dX4_odds_10 : decode cX4_odds 10 = .ok (.iload_n 2, 1) := by decide +kernel
theorem dX4_odds_11 : decode cX4_odds 11 = .ok (.iconst 0, 1) := by decide +kernel
theorem dX4_odds_12 : decode cX4_odds 12 = .ok (.iconst 1, 1) := by decide +kernel
theorem dX4_odds_13 : decode cX4_odds 13 = .ok (.invokestatic 84, 3) := by decide +kernel
theorem dX4_odds_16 : decode cX4_odds 16 = .ok (.ifCond .ne 11, 3) := by decide +kernel
theorem dX4_odds_19 : decode cX4_odds 19 = .ok (.aload_n 0, 1) := by decide +kernel
theorem dX4_odds_20 : decode cX4_odds 20 = .ok (.ldc 57, 2) := by decide +kernel
theorem dX4_odds_22 : decode cX4_odds 22 = .ok (.invokevirtual 58, 3) := by decide +kernel
theorem dX4_odds_25 : decode cX4_odds 25 = .ok (.i2l, 1) := by decide +kernel
theorem dX4_odds_26 : decode cX4_odds 26 = .ok (.lreturn, 1) := by decide +kernel
theorem dX4_odds_27 : decode cX4_odds 27 = .ok (.iload_n 2, 1) := by decide +kernel
theorem dX4_odds_28 : decode cX4_odds 28 = .ok (.ifCond .ne 8, 3) := by decide +kernel
theorem dX4_odds_31 : decode cX4_odds 31 = .ok (.bipush 15, 2) := by decide +kernel
theorem dX4_odds_33 : decode cX4_odds 33 = .ok (.goto 5, 3) := by decide +kernel
theorem dX4_odds_36 : decode cX4_odds 36 = .ok (.bipush 16, 2) := by decide +kernel
theorem dX4_odds_38 : decode cX4_odds 38 = .ok (.istore_n 3, 1) := by decide +kernel
theorem dX4_odds_39 : decode cX4_odds 39 = .ok (.lconst 1, 1) := by decide +kernel
theorem dX4_odds_40 : decode cX4_odds 40 = .ok (.lstore 4, 2) := by decide +kernel
theorem dX4_odds_42 : decode cX4_odds 42 = .ok (.iconst 0, 1) := by decide +kernel
theorem dX4_odds_43 : decode cX4_odds 43 = .ok (.istore 6, 2) := by decide +kernel
theorem dX4_odds_45 : decode cX4_odds 45 = .ok (.iload 6, 2) := by decide +kernel
theorem dX4_odds_47 : decode cX4_odds 47 = .ok (.iload_n 1, 1) := by decide +kernel
theorem dX4_odds_48 : decode cX4_odds 48 = .ok (.if_icmp .ge 16, 3) := by decide +kernel
theorem dX4_odds_51 : decode cX4_odds 51 = .ok (.lload 4, 2) := by decide +kernel
theorem dX4_odds_53 : decode cX4_odds 53 = .ok (.iload_n 3, 1) := by decide +kernel
theorem dX4_odds_54 : decode cX4_odds 54 = .ok (.i2l, 1) := by decide +kernel
theorem dX4_odds_55 : decode cX4_odds 55 = .ok (.lmul, 1) := by decide +kernel
theorem dX4_odds_56 : decode cX4_odds 56 = .ok (.lstore 4, 2) := by decide +kernel
theorem dX4_odds_58 : decode cX4_odds 58 = .ok (.iinc 6 1, 3) := by decide +kernel
theorem dX4_odds_61 : decode cX4_odds 61 = .ok (.goto (-16), 3) := by decide +kernel
theorem dX4_odds_64 : decode cX4_odds 64 = .ok (.lload 4, 2) := by decide +kernel
theorem dX4_odds_66 : decode cX4_odds 66 = .ok (.lreturn, 1) := by decide +kernel
set_option maxHeartbeats 4000000 in
set_option maxRecDepth 100000 in
theorem g_X4_odds {E : fh_E} {M : fh_M} (C : fh_Cx E M cX4_odds 7 RX4 ((some FieldType.long)) rm_X4_odds) (Hr : fh_Rt E M) (k1 : Nat) (a2 : Int32) (a3 : Int32) (σ4 : fh_S) : fh_Go E M 7 fh_vL 0 [(0, .ref (fh_ad E k1)), (1, .int a2), (2, .int a3)] [] σ4 (f_X4_odds k1 a2 a3 σ4) := by
  have hok := fh_cok C
  refine go_ob ?_
  refine go_iload_n C 1 rfl rfl dX4_odds_0 ?_
  refine go_iconst C (0 : Int32) dX4_odds_1 rfl ?_
  refine go_bipush C (14 : Int32) dX4_odds_2 rfl ?_
  refine go_callSI C (st := []) [.int a2, .int ((0 : Int32)), .int ((14 : Int32))] (m_X4_isWithin E _ hok a2 ((0 : Int32)) ((14 : Int32)) σ4) rfl ⟨q_172, q_173, q_1, q_174⟩ pd_X4_isWithin rfl ⟨⟨Nat.le_of_ble_eq_true rfl, Nat.le_of_ble_eq_true rfl⟩, rfl, rfl⟩ (Nat.le_of_ble_eq_true rfl) dX4_odds_4 (fun r6 σ5 => ?_)
  refine go_jn (fun (j10 : fh_S → Option (Int64 × fh_S)) => ∀ (σ7 : fh_S), fh_Go E M 7 fh_vL 19 [(0, .ref (fh_ad E k1))] [] σ7 (j10 σ7)) ?_ (fun j10 hj10 => ?_)
  · intro σ7
    refine go_aload_n C 0 rfl rfl dX4_odds_19 ?_
    refine go_ldc C q_175 dX4_odds_20 ?_
    refine go_callVI C (st := []) [.int ((-1000001 : Int32))] (m_X4_tell E _ hok k1 ((-1000001 : Int32)) σ7) (fun _ h => fh_ob_ok h) rfl rfl ⟨q_176, q_178, qs_0, q_1, q_179⟩ pd_X4_tell rfl ⟨⟨Nat.le_of_ble_eq_true rfl, Nat.le_of_ble_eq_true rfl⟩, rfl, rfl⟩ (Nat.le_of_ble_eq_true rfl) dX4_odds_22 (fun r9 σ8 => ?_)
    refine go_i2l C dX4_odds_25 ?_
    exact go_lret C Hr rfl dX4_odds_26
  refine go_if_eq (tgt := 19) C dX4_odds_7 rfl (fun _ => ?_) (fun _ => ?_)
  · refine go_lv [0] (lv' := [(0, .ref (fh_ad E k1))]) rfl ?_
    exact hj10 σ5
  · refine go_iload_n C 2 rfl rfl dX4_odds_10 ?_
    refine go_iconst C (0 : Int32) dX4_odds_11 rfl ?_
    refine go_iconst C (1 : Int32) dX4_odds_12 rfl ?_
    refine go_callSI C (st := []) [.int a3, .int ((0 : Int32)), .int ((1 : Int32))] (m_X4_isWithin E _ hok a3 ((0 : Int32)) ((1 : Int32)) σ5) rfl ⟨q_172, q_173, q_1, q_174⟩ pd_X4_isWithin rfl ⟨⟨Nat.le_of_ble_eq_true rfl, Nat.le_of_ble_eq_true rfl⟩, rfl, rfl⟩ (Nat.le_of_ble_eq_true rfl) dX4_odds_13 (fun r12 σ11 => ?_)
    refine go_if_ne (tgt := 27) C dX4_odds_16 rfl (fun _ => ?_) (fun _ => ?_)
    · refine go_iload_n C 2 rfl rfl dX4_odds_27 ?_
      refine go_jn (fun (j19 : Int32 → fh_S → Option (Int64 × fh_S)) => ∀ (x13 : Int32) (σ14 : fh_S), fh_Go E M 7 fh_vL 38 [(1, .int a2)] [.int x13] σ14 (j19 x13 σ14)) ?_ (fun j19 hj19 => ?_)
      · intro x13 σ14
        refine go_istore_n C [(3, .int x13), (1, .int a2)] rfl rfl (by decide) dX4_odds_38 ?_
        refine go_lconst C (1 : Int64) dX4_odds_39 rfl ?_
        refine go_lstore C [(4, .long ((1 : Int64))), (3, .int x13), (1, .int a2)] rfl (by decide) dX4_odds_40 ?_
        refine go_iconst C (0 : Int32) dX4_odds_42 rfl ?_
        refine go_istore C [(6, .int ((0 : Int32))), (4, .long ((1 : Int64))), (3, .int x13), (1, .int a2)] rfl (by decide) dX4_odds_43 ?_
        refine go_lv [3, 2, 1, 0] (lv' := [(1, .int a2), (3, .int x13), (4, .long ((1 : Int64))), (6, .int ((0 : Int32)))]) rfl ?_
        refine go_fx (fun (r18 : Int64 → Int32 → fh_S → Option (Int64 × fh_S)) => ∀ (x15 : Int64) (x16 : Int32) (σ17 : fh_S), fh_Go E M 7 fh_vL 45 [(1, .int a2), (3, .int x13), (4, .long x15), (6, .int x16)] [] σ17 (r18 x15 x16 σ17)) ?_ ?_ fh_fu ((1 : Int64)) ((0 : Int32)) σ14
        · intro x15 x16 σ17
          exact go_none
        · intro r18 hr18 x15 x16 σ17
          refine go_iload C 3 rfl dX4_odds_45 ?_
          refine go_iload_n C 0 rfl rfl dX4_odds_47 ?_
          refine go_icmp_ge (tgt := 64) C dX4_odds_48 rfl (fun _ => ?_) (fun _ => ?_)
          · refine go_lload C 2 rfl dX4_odds_64 ?_
            exact go_lret C Hr rfl dX4_odds_66
          · refine go_lload C 2 rfl dX4_odds_51 ?_
            refine go_iload_n C 1 rfl rfl dX4_odds_53 ?_
            refine go_i2l C dX4_odds_54 ?_
            refine go_lmul C dX4_odds_55 ?_
            refine go_lstore C [(4, .long (x15 * x13.toInt64)), (1, .int a2), (3, .int x13), (6, .int x16)] rfl (by decide) dX4_odds_56 ?_
            refine go_iinc C (x16 + 1) 3 [(6, .int (x16 + 1)), (4, .long (x15 * x13.toInt64)), (1, .int a2), (3, .int x13)] rfl rfl rfl (by decide) dX4_odds_58 ?_
            refine go_goto C 45 dX4_odds_61 rfl ?_
            refine go_lv [2, 3, 1, 0] (lv' := [(1, .int a2), (3, .int x13), (4, .long (x15 * x13.toInt64)), (6, .int (x16 + 1))]) rfl ?_
            exact hr18 (x15 * x13.toInt64) (x16 + 1) σ17
      refine go_if_ne (tgt := 36) C dX4_odds_28 rfl (fun _ => ?_) (fun _ => ?_)
      · refine go_bipush C (16 : Int32) dX4_odds_36 rfl ?_
        refine go_lv [1] (lv' := [(1, .int a2)]) rfl ?_
        exact hj19 ((16 : Int32)) σ11
      · refine go_bipush C (15 : Int32) dX4_odds_31 rfl ?_
        refine go_goto C 38 dX4_odds_33 rfl ?_
        refine go_lv [1] (lv' := [(1, .int a2)]) rfl ?_
        exact hj19 ((15 : Int32)) σ11
    · refine go_lv [0] (lv' := [(0, .ref (fh_ad E k1))]) rfl ?_
      exact hj10 σ11
theorem m_X4_odds (E : fh_E) (l : Launch) (hok : fh_ok E) (k1 : Nat) (a2 : Int32) (a3 : Int32) (σ4 : fh_S) : fh_Met E l yX4_odds cX4_odds 7 ((some FieldType.long)) rm_X4_odds fh_vL [.ref (fh_ad E k1), .int a2, .int a3] σ4 (f_X4_odds k1 a2 a3 σ4) := fh_met hok (by decide +kernel) (Nat.le_of_ble_eq_true rfl) (fun M _ C Hr => g_X4_odds C Hr k1 a2 a3 σ4)
def f_X4_seed (k1 : Nat) (a2 : Int32) (σ3 : fh_S) : Option (Int32 × fh_S) := fh_ob 4 k1 ((fh_gr 4 k1 0).bind fun k4 => (fh_gi σ3 0 k4 11).bind fun v5 => (fh_gr 4 k1 0).bind fun k6 => (fh_pf σ3 0 k6 11 a2).bind fun σ7 => some (v5, σ7))
abbrev rm_X4_seed : Room := { frames := 0, cells := 0, slots := 0, locals := 0 }
theorem pd_X4_seed : yX4_seed.cls ≠ "java/lang/invoke/MethodHandle" ∧ yX4_seed.cls ≠ "java/lang/invoke/VarHandle" ∧ (parseMethodDescriptor yX4_seed.desc).map (fun d => d.parameters.length) = some 1 := by decide +kernel
theorem dX4_seed_0 : decode cX4_seed 0 = .ok (.aload_n 0, 1) := by decide +kernel
theorem dX4_seed_1 : decode cX4_seed 1 = .ok (.getfield 12, 3) := by decide +kernel
theorem dX4_seed_4 : decode cX4_seed 4 = .ok (.getfield 210, 3) := by decide +kernel
theorem dX4_seed_7 : decode cX4_seed 7 = .ok (.istore_n 2, 1) := by decide +kernel
theorem dX4_seed_8 : decode cX4_seed 8 = .ok (.aload_n 0, 1) := by decide +kernel
theorem dX4_seed_9 : decode cX4_seed 9 = .ok (.getfield 12, 3) := by decide +kernel
theorem dX4_seed_12 : decode cX4_seed 12 = .ok (.iload_n 1, 1) := by decide +kernel
theorem dX4_seed_13 : decode cX4_seed 13 = .ok (.putfield 210, 3) := by decide +kernel
theorem dX4_seed_16 : decode cX4_seed 16 = .ok (.iload_n 2, 1) := by decide +kernel
theorem dX4_seed_17 : decode cX4_seed 17 = .ok (.ireturn, 1) := by decide +kernel
set_option maxHeartbeats 4000000 in
set_option maxRecDepth 100000 in
theorem g_X4_seed {E : fh_E} {M : fh_M} (C : fh_Cx E M cX4_seed 3 RX4 ((some FieldType.int)) rm_X4_seed) (Hr : fh_Rt E M) (k1 : Nat) (a2 : Int32) (σ3 : fh_S) : fh_Go E M 3 fh_vI 0 [(0, .ref (fh_ad E k1)), (1, .int a2)] [] σ3 (f_X4_seed k1 a2 σ3) := by
  have hok := fh_cok C
  refine go_ob ?_
  refine go_aload_n C 0 rfl rfl dX4_seed_0 ?_
  refine go_gr (ci := 4) (j := 0) C fh_in4 rfl (by decide) rfl q_138 dX4_seed_1 (fun k4 => ?_)
  refine go_gi (ci := 0) (j := 11) C fh_in0 rfl (by decide) rfl q_52 dX4_seed_4 (fun v5 => ?_)
  refine go_istore_n C [(2, .int v5), (0, .ref (fh_ad E k1)), (1, .int a2)] rfl rfl (by decide) dX4_seed_7 ?_
  refine go_aload_n C 1 rfl rfl dX4_seed_8 ?_
  refine go_gr (ci := 4) (j := 0) C fh_in4 rfl (by decide) rfl q_138 dX4_seed_9 (fun k6 => ?_)
  refine go_iload_n C 2 rfl rfl dX4_seed_12 ?_
  refine go_pf (ci := 0) (j := 11) C tyX0 tyX0_ok nmX0 fh_in0 rfl (by decide) rfl q_52 rfl rfl dX4_seed_13 (fun σ7 => ?_)
  refine go_iload_n C 0 rfl rfl dX4_seed_16 ?_
  exact go_iret C Hr rfl dX4_seed_17
theorem m_X4_seed (E : fh_E) (l : Launch) (hok : fh_ok E) (k1 : Nat) (a2 : Int32) (σ3 : fh_S) : fh_Met E l yX4_seed cX4_seed 3 ((some FieldType.int)) rm_X4_seed fh_vI [.ref (fh_ad E k1), .int a2] σ3 (f_X4_seed k1 a2 σ3) := fh_met hok (by decide +kernel) (Nat.le_of_ble_eq_true rfl) (fun M _ C Hr => g_X4_seed C Hr k1 a2 σ3)
def f_X4_feed_B41 (k1 : Nat) (a2 : Int32) (r11 : Int32 → fh_S → Option (Int32 × fh_S)) : Int32 → fh_S → Option (Int32 × fh_S) := fun x9 σ10 => if x9 < 0 then (fh_gr 4 k1 3).bind fun k12 => (fh_gi σ10 3 k12 1).bind fun v13 => some (v13, σ10) else (fh_gr 4 k1 3).bind fun k14 => fh_cb (f_X3_append k14 (((a2.toUInt32 >>> ((((8 : Int32)) * x9).toUInt32 &&& Int32.toUInt32 31)).toInt32) &&& ((255 : Int32))) σ10) fun _ σ15 => r11 (x9 + (-1)) σ15
def f_X4_feed (k1 : Nat) (a2 : Int32) (a3 : Int32) (σ4 : fh_S) : Option (Int32 × fh_S) := fh_ob 4 k1 (fh_cb (f_X4_isWithin a3 ((1 : Int32)) ((4 : Int32)) σ4) fun r6 σ5 => if r6 = 0 then fh_cb (f_X4_tell k1 ((-1000001 : Int32)) σ5) fun r19 σ18 => some (r19, σ18) else (fh_gr 4 k1 3).bind fun k7 => (fh_gi σ5 3 k7 1).bind fun v8 => if v8 ≤ (((120 : Int32)) - a3) then fh_fx (ρ := Int32 → fh_S → Option (Int32 × fh_S)) (fun _ _ => none) (f_X4_feed_B41 k1 a2) fh_fu (a3 - ((1 : Int32))) σ5 else fh_cb (f_X4_tell k1 ((-1000002 : Int32)) σ5) fun r17 σ16 => some (r17, σ16))
abbrev rm_X4_feed : Room := { frames := 2, cells := 0, slots := 0, locals := 44 }
theorem pd_X4_feed : yX4_feed.cls ≠ "java/lang/invoke/MethodHandle" ∧ yX4_feed.cls ≠ "java/lang/invoke/VarHandle" ∧ (parseMethodDescriptor yX4_feed.desc).map (fun d => d.parameters.length) = some 2 := by decide +kernel
theorem dX4_feed_0 : decode cX4_feed 0 = .ok (.iload_n 2, 1) := by decide +kernel
theorem dX4_feed_1 : decode cX4_feed 1 = .ok (.iconst 1, 1) := by decide +kernel
theorem dX4_feed_2 : decode cX4_feed 2 = .ok (.iconst 4, 1) := by decide +kernel
theorem dX4_feed_3 : decode cX4_feed 3 = .ok (.invokestatic 84, 3) := by decide +kernel
theorem dX4_feed_6 : decode cX4_feed 6 = .ok (.ifCond .ne 10, 3) := by decide +kernel
theorem dX4_feed_9 : decode cX4_feed 9 = .ok (.aload_n 0, 1) := by decide +kernel
theorem dX4_feed_10 : decode cX4_feed 10 = .ok (.ldc 57, 2) := by decide +kernel
theorem dX4_feed_12 : decode cX4_feed 12 = .ok (.invokevirtual 58, 3) := by decide +kernel
theorem dX4_feed_15 : decode cX4_feed 15 = .ok (.ireturn, 1) := by decide +kernel
theorem dX4_feed_16 : decode cX4_feed 16 = .ok (.aload_n 0, 1) := by decide +kernel
theorem dX4_feed_17 : decode cX4_feed 17 = .ok (.getfield 25, 3) := by decide +kernel
theorem dX4_feed_20 : decode cX4_feed 20 = .ok (.getfield 213, 3) := by decide +kernel
theorem dX4_feed_23 : decode cX4_feed 23 = .ok (.bipush 120, 2) := by decide +kernel
theorem dX4_feed_25 : decode cX4_feed 25 = .ok (.iload_n 2, 1) := by decide +kernel
theorem dX4_feed_26 : decode cX4_feed 26 = .ok (.isub, 1) := by decide +kernel
theorem dX4_feed_27 : decode cX4_feed 27 = .ok (.if_icmp .le 10, 3) := by decide +kernel
theorem dX4_feed_30 : decode cX4_feed 30 = .ok (.aload_n 0, 1) := by decide +kernel
theorem dX4_feed_31 : decode cX4_feed 31 = .ok (.ldc 66, 2) := by decide +kernel
theorem dX4_feed_33 : decode cX4_feed 33 = .ok (.invokevirtual 58, 3) := by decide +kernel
theorem dX4_feed_36 : decode cX4_feed 36 = .ok (.ireturn, 1) := by decide +kernel
theorem dX4_feed_37 : decode cX4_feed 37 = .ok (.iload_n 2, 1) := by decide +kernel
theorem dX4_feed_38 : decode cX4_feed 38 = .ok (.iconst 1, 1) := by decide +kernel
theorem dX4_feed_39 : decode cX4_feed 39 = .ok (.isub, 1) := by decide +kernel
theorem dX4_feed_40 : decode cX4_feed 40 = .ok (.istore_n 3, 1) := by decide +kernel
theorem dX4_feed_41 : decode cX4_feed 41 = .ok (.iload_n 3, 1) := by decide +kernel
theorem dX4_feed_42 : decode cX4_feed 42 = .ok (.ifCond .lt 26, 3) := by decide +kernel
theorem dX4_feed_45 : decode cX4_feed 45 = .ok (.aload_n 0, 1) := by decide +kernel
theorem dX4_feed_46 : decode cX4_feed 46 = .ok (.getfield 25, 3) := by decide +kernel
theorem dX4_feed_49 : decode cX4_feed 49 = .ok (.iload_n 1, 1) := by decide +kernel
theorem dX4_feed_50 : decode cX4_feed 50 = .ok (.bipush 8, 2) := by decide +kernel
theorem dX4_feed_52 : decode cX4_feed 52 = .ok (.iload_n 3, 1) := by decide +kernel
theorem dX4_feed_53 : decode cX4_feed 53 = .ok (.imul, 1) := by decide +kernel
theorem dX4_feed_54 : decode cX4_feed 54 = .ok (.iushr, 1) := by decide +kernel
theorem dX4_feed_55 : decode cX4_feed 55 = .ok (.sipush 255, 3) := by decide +kernel
theorem dX4_feed_58 : decode cX4_feed 58 = .ok (.iand, 1) := by decide +kernel
theorem dX4_feed_59 : decode cX4_feed 59 = .ok (.invokevirtual 214, 3) := by decide +kernel
theorem dX4_feed_62 : decode cX4_feed 62 = .ok (.iinc 3 (-1), 3) := by decide +kernel
theorem dX4_feed_65 : decode cX4_feed 65 = .ok (.goto (-24), 3) := by decide +kernel
theorem dX4_feed_68 : decode cX4_feed 68 = .ok (.aload_n 0, 1) := by decide +kernel
theorem dX4_feed_69 : decode cX4_feed 69 = .ok (.getfield 25, 3) := by decide +kernel
theorem dX4_feed_72 : decode cX4_feed 72 = .ok (.getfield 213, 3) := by decide +kernel
theorem dX4_feed_75 : decode cX4_feed 75 = .ok (.ireturn, 1) := by decide +kernel
set_option maxHeartbeats 4000000 in
set_option maxRecDepth 100000 in
theorem g_X4_feed {E : fh_E} {M : fh_M} (C : fh_Cx E M cX4_feed 4 RX4 ((some FieldType.int)) rm_X4_feed) (Hr : fh_Rt E M) (k1 : Nat) (a2 : Int32) (a3 : Int32) (σ4 : fh_S) : fh_Go E M 4 fh_vI 0 [(0, .ref (fh_ad E k1)), (1, .int a2), (2, .int a3)] [] σ4 (f_X4_feed k1 a2 a3 σ4) := by
  have hok := fh_cok C
  refine go_ob ?_
  refine go_iload_n C 2 rfl rfl dX4_feed_0 ?_
  refine go_iconst C (1 : Int32) dX4_feed_1 rfl ?_
  refine go_iconst C (4 : Int32) dX4_feed_2 rfl ?_
  refine go_callSI C (st := []) [.int a3, .int ((1 : Int32)), .int ((4 : Int32))] (m_X4_isWithin E _ hok a3 ((1 : Int32)) ((4 : Int32)) σ4) rfl ⟨q_172, q_173, q_1, q_174⟩ pd_X4_isWithin rfl ⟨⟨Nat.le_of_ble_eq_true rfl, Nat.le_of_ble_eq_true rfl⟩, rfl, rfl⟩ (Nat.le_of_ble_eq_true rfl) dX4_feed_3 (fun r6 σ5 => ?_)
  refine go_if_ne (tgt := 16) C dX4_feed_6 rfl (fun _ => ?_) (fun _ => ?_)
  · refine go_aload_n C 0 rfl rfl dX4_feed_16 ?_
    refine go_gr (ci := 4) (j := 3) C fh_in4 rfl (by decide) rfl q_141 dX4_feed_17 (fun k7 => ?_)
    refine go_gi (ci := 3) (j := 1) C fh_in3 rfl (by decide) rfl q_87 dX4_feed_20 (fun v8 => ?_)
    refine go_bipush C (120 : Int32) dX4_feed_23 rfl ?_
    refine go_iload_n C 2 rfl rfl dX4_feed_25 ?_
    refine go_isub C dX4_feed_26 ?_
    refine go_icmp_le (tgt := 37) C dX4_feed_27 rfl (fun _ => ?_) (fun _ => ?_)
    · refine go_iload_n C 2 rfl rfl dX4_feed_37 ?_
      refine go_iconst C (1 : Int32) dX4_feed_38 rfl ?_
      refine go_isub C dX4_feed_39 ?_
      refine go_istore_n C [(3, .int (a3 - ((1 : Int32)))), (0, .ref (fh_ad E k1)), (1, .int a2), (2, .int a3)] rfl rfl (by decide) dX4_feed_40 ?_
      refine go_lv [1, 2, 0] (lv' := [(0, .ref (fh_ad E k1)), (1, .int a2), (3, .int (a3 - ((1 : Int32))))]) rfl ?_
      refine go_fx (fun (r11 : Int32 → fh_S → Option (Int32 × fh_S)) => ∀ (x9 : Int32) (σ10 : fh_S), fh_Go E M 4 fh_vI 41 [(0, .ref (fh_ad E k1)), (1, .int a2), (3, .int x9)] [] σ10 (r11 x9 σ10)) ?_ ?_ fh_fu (a3 - ((1 : Int32))) σ5
      · intro x9 σ10
        exact go_none
      · intro r11 hr11 x9 σ10
        refine go_iload_n C 2 rfl rfl dX4_feed_41 ?_
        refine go_if_lt (tgt := 68) C dX4_feed_42 rfl (fun _ => ?_) (fun _ => ?_)
        · refine go_aload_n C 0 rfl rfl dX4_feed_68 ?_
          refine go_gr (ci := 4) (j := 3) C fh_in4 rfl (by decide) rfl q_141 dX4_feed_69 (fun k12 => ?_)
          refine go_gi (ci := 3) (j := 1) C fh_in3 rfl (by decide) rfl q_87 dX4_feed_72 (fun v13 => ?_)
          exact go_iret C Hr rfl dX4_feed_75
        · refine go_aload_n C 0 rfl rfl dX4_feed_45 ?_
          refine go_gr (ci := 4) (j := 3) C fh_in4 rfl (by decide) rfl q_141 dX4_feed_46 (fun k14 => ?_)
          refine go_iload_n C 1 rfl rfl dX4_feed_49 ?_
          refine go_bipush C (8 : Int32) dX4_feed_50 rfl ?_
          refine go_iload_n C 2 rfl rfl dX4_feed_52 ?_
          refine go_imul C dX4_feed_53 ?_
          refine go_iushr C dX4_feed_54 ?_
          refine go_sipush C (255 : Int32) dX4_feed_55 rfl ?_
          refine go_iand C dX4_feed_58 ?_
          refine go_callVU C (st := []) [.int (((a2.toUInt32 >>> ((((8 : Int32)) * x9).toUInt32 &&& Int32.toUInt32 31)).toInt32) &&& ((255 : Int32)))] (m_X3_append E _ hok k14 (((a2.toUInt32 >>> ((((8 : Int32)) * x9).toUInt32 &&& Int32.toUInt32 31)).toInt32) &&& ((255 : Int32))) σ10) (fun _ h => fh_ob_ok h) rfl rfl ⟨q_518, q_519, q_520, q_3, q_521⟩ pd_X3_append rfl ⟨⟨Nat.le_of_ble_eq_true rfl, Nat.le_of_ble_eq_true rfl⟩, rfl, rfl⟩ (Nat.le_of_ble_eq_true rfl) dX4_feed_59 (fun _ σ15 => ?_)
          refine go_iinc C (x9 + (-1)) 2 [(3, .int (x9 + (-1))), (0, .ref (fh_ad E k1)), (1, .int a2)] rfl (congrArg (fun z => x9 + z) (by decide : Int32.ofInt (-1) = (-1 : Int32))) rfl (by decide) dX4_feed_62 ?_
          refine go_goto C 41 dX4_feed_65 rfl ?_
          refine go_lv [1, 2, 0] (lv' := [(0, .ref (fh_ad E k1)), (1, .int a2), (3, .int (x9 + (-1)))]) rfl ?_
          exact hr11 (x9 + (-1)) σ15
    · refine go_aload_n C 0 rfl rfl dX4_feed_30 ?_
      refine go_ldc C q_184 dX4_feed_31 ?_
      refine go_callVI C (st := []) [.int ((-1000002 : Int32))] (m_X4_tell E _ hok k1 ((-1000002 : Int32)) σ5) (fun _ h => fh_ob_ok h) rfl rfl ⟨q_176, q_178, qs_0, q_1, q_179⟩ pd_X4_tell rfl ⟨⟨Nat.le_of_ble_eq_true rfl, Nat.le_of_ble_eq_true rfl⟩, rfl, rfl⟩ (Nat.le_of_ble_eq_true rfl) dX4_feed_33 (fun r17 σ16 => ?_)
      exact go_iret C Hr rfl dX4_feed_36
  · refine go_aload_n C 0 rfl rfl dX4_feed_9 ?_
    refine go_ldc C q_175 dX4_feed_10 ?_
    refine go_callVI C (st := []) [.int ((-1000001 : Int32))] (m_X4_tell E _ hok k1 ((-1000001 : Int32)) σ5) (fun _ h => fh_ob_ok h) rfl rfl ⟨q_176, q_178, qs_0, q_1, q_179⟩ pd_X4_tell rfl ⟨⟨Nat.le_of_ble_eq_true rfl, Nat.le_of_ble_eq_true rfl⟩, rfl, rfl⟩ (Nat.le_of_ble_eq_true rfl) dX4_feed_12 (fun r19 σ18 => ?_)
    exact go_iret C Hr rfl dX4_feed_15
theorem m_X4_feed (E : fh_E) (l : Launch) (hok : fh_ok E) (k1 : Nat) (a2 : Int32) (a3 : Int32) (σ4 : fh_S) : fh_Met E l yX4_feed cX4_feed 4 ((some FieldType.int)) rm_X4_feed fh_vI [.ref (fh_ad E k1), .int a2, .int a3] σ4 (f_X4_feed k1 a2 a3 σ4) := fh_met hok (by decide +kernel) (Nat.le_of_ble_eq_true rfl) (fun M _ C Hr => g_X4_feed C Hr k1 a2 a3 σ4)
def f_X4_wipe (k1 : Nat) (σ2 : fh_S) : Option (Int32 × fh_S) := fh_ob 4 k1 ((fh_gr 4 k1 3).bind fun k3 => (fh_gi σ2 3 k3 1).bind fun v4 => (fh_gr 4 k1 3).bind fun k5 => (fh_pf σ2 3 k5 1 ((0 : Int32))).bind fun σ6 => some (v4, σ6))
abbrev rm_X4_wipe : Room := { frames := 0, cells := 0, slots := 0, locals := 0 }
theorem pd_X4_wipe : yX4_wipe.cls ≠ "java/lang/invoke/MethodHandle" ∧ yX4_wipe.cls ≠ "java/lang/invoke/VarHandle" ∧ (parseMethodDescriptor yX4_wipe.desc).map (fun d => d.parameters.length) = some 0 := by decide +kernel
theorem dX4_wipe_0 : decode cX4_wipe 0 = .ok (.aload_n 0, 1) := by decide +kernel
theorem dX4_wipe_1 : decode cX4_wipe 1 = .ok (.getfield 25, 3) := by decide +kernel
theorem dX4_wipe_4 : decode cX4_wipe 4 = .ok (.getfield 213, 3) := by decide +kernel
theorem dX4_wipe_7 : decode cX4_wipe 7 = .ok (.istore_n 1, 1) := by decide +kernel
theorem dX4_wipe_8 : decode cX4_wipe 8 = .ok (.aload_n 0, 1) := by decide +kernel
theorem dX4_wipe_9 : decode cX4_wipe 9 = .ok (.getfield 25, 3) := by decide +kernel
theorem dX4_wipe_12 : decode cX4_wipe 12 = .ok (.iconst 0, 1) := by decide +kernel
theorem dX4_wipe_13 : decode cX4_wipe 13 = .ok (.putfield 213, 3) := by decide +kernel
theorem dX4_wipe_16 : decode cX4_wipe 16 = .ok (.iload_n 1, 1) := by decide +kernel
theorem dX4_wipe_17 : decode cX4_wipe 17 = .ok (.ireturn, 1) := by decide +kernel
set_option maxHeartbeats 4000000 in
set_option maxRecDepth 100000 in
theorem g_X4_wipe {E : fh_E} {M : fh_M} (C : fh_Cx E M cX4_wipe 2 RX4 ((some FieldType.int)) rm_X4_wipe) (Hr : fh_Rt E M) (k1 : Nat) (σ2 : fh_S) : fh_Go E M 2 fh_vI 0 [(0, .ref (fh_ad E k1))] [] σ2 (f_X4_wipe k1 σ2) := by
  have hok := fh_cok C
  refine go_ob ?_
  refine go_aload_n C 0 rfl rfl dX4_wipe_0 ?_
  refine go_gr (ci := 4) (j := 3) C fh_in4 rfl (by decide) rfl q_141 dX4_wipe_1 (fun k3 => ?_)
  refine go_gi (ci := 3) (j := 1) C fh_in3 rfl (by decide) rfl q_87 dX4_wipe_4 (fun v4 => ?_)
  refine go_istore_n C [(1, .int v4), (0, .ref (fh_ad E k1))] rfl rfl (by decide) dX4_wipe_7 ?_
  refine go_aload_n C 1 rfl rfl dX4_wipe_8 ?_
  refine go_gr (ci := 4) (j := 3) C fh_in4 rfl (by decide) rfl q_141 dX4_wipe_9 (fun k5 => ?_)
  refine go_iconst C (0 : Int32) dX4_wipe_12 rfl ?_
  refine go_pf (ci := 3) (j := 1) C tyX3 tyX3_ok nmX3 fh_in3 rfl (by decide) rfl q_87 rfl rfl dX4_wipe_13 (fun σ6 => ?_)
  refine go_iload_n C 0 rfl rfl dX4_wipe_16 ?_
  exact go_iret C Hr rfl dX4_wipe_17
theorem m_X4_wipe (E : fh_E) (l : Launch) (hok : fh_ok E) (k1 : Nat) (σ2 : fh_S) : fh_Met E l yX4_wipe cX4_wipe 2 ((some FieldType.int)) rm_X4_wipe fh_vI [.ref (fh_ad E k1)] σ2 (f_X4_wipe k1 σ2) := fh_met hok (by decide +kernel) (Nat.le_of_ble_eq_true rfl) (fun M _ C Hr => g_X4_wipe C Hr k1 σ2)
def f_X4_text_J38 (k1 : Nat) (r9 : Int32) : fh_S → Option (Int32 × fh_S) := fun σ10 => (fh_gr 4 k1 3).bind fun k11 => (fh_pf σ10 3 k11 1 ((0 : Int32))).bind fun σ12 => some (r9, σ12)
def f_X4_text (k1 : Nat) (σ2 : fh_S) : Option (Int32 × fh_S) := fh_ob 4 k1 ((fh_gr 4 k1 2).bind fun k3 => (fh_gr 4 k1 0).bind fun k4 => fh_cb (f_X0_become k3 k4 σ2) fun _ σ5 => (fh_gr 4 k1 4).bind fun k6 => (fh_gr 4 k1 2).bind fun k7 => fh_cb (f_X1_readInto k6 k7 σ5) fun r9 σ8 => fh_jn (f_X4_text_J38 k1 r9) (fun j13 => if r9 < 0 then j13 σ8 else (fh_gr 4 k1 0).bind fun k14 => (fh_gr 4 k1 2).bind fun k15 => fh_cb (f_X0_become k14 k15 σ8) fun _ σ16 => j13 σ16))
abbrev rm_X4_text : Room := { frames := 8, cells := 0, slots := 0, locals := 175 }
theorem pd_X4_text : yX4_text.cls ≠ "java/lang/invoke/MethodHandle" ∧ yX4_text.cls ≠ "java/lang/invoke/VarHandle" ∧ (parseMethodDescriptor yX4_text.desc).map (fun d => d.parameters.length) = some 0 := by decide +kernel
theorem dX4_text_0 : decode cX4_text 0 = .ok (.aload_n 0, 1) := by decide +kernel
theorem dX4_text_1 : decode cX4_text 1 = .ok (.getfield 19, 3) := by decide +kernel
theorem dX4_text_4 : decode cX4_text 4 = .ok (.aload_n 0, 1) := by decide +kernel
theorem dX4_text_5 : decode cX4_text 5 = .ok (.getfield 12, 3) := by decide +kernel
theorem dX4_text_8 : decode cX4_text 8 = .ok (.invokevirtual 161, 3) := by decide +kernel
theorem dX4_text_11 : decode cX4_text 11 = .ok (.aload_n 0, 1) := by decide +kernel
theorem dX4_text_12 : decode cX4_text 12 = .ok (.getfield 34, 3) := by decide +kernel
theorem dX4_text_15 : decode cX4_text 15 = .ok (.aload_n 0, 1) := by decide +kernel
theorem dX4_text_16 : decode cX4_text 16 = .ok (.getfield 19, 3) := by decide +kernel
theorem dX4_text_19 : decode cX4_text 19 = .ok (.invokevirtual 217, 3) := by decide +kernel
theorem dX4_text_22 : decode cX4_text 22 = .ok (.istore_n 1, 1) := by decide +kernel
theorem dX4_text_23 : decode cX4_text 23 = .ok (.iload_n 1, 1) := by decide +kernel
theorem dX4_text_24 : decode cX4_text 24 = .ok (.ifCond .lt 14, 3) := by decide +kernel
theorem dX4_text_27 : decode cX4_text 27 = .ok (.aload_n 0, 1) := by decide +kernel
theorem dX4_text_28 : decode cX4_text 28 = .ok (.getfield 12, 3) := by decide +kernel
theorem dX4_text_31 : decode cX4_text 31 = .ok (.aload_n 0, 1) := by decide +kernel
theorem dX4_text_32 : decode cX4_text 32 = .ok (.getfield 19, 3) := by decide +kernel
theorem dX4_text_35 : decode cX4_text 35 = .ok (.invokevirtual 161, 3) := by decide +kernel
theorem dX4_text_38 : decode cX4_text 38 = .ok (.aload_n 0, 1) := by decide +kernel
theorem dX4_text_39 : decode cX4_text 39 = .ok (.getfield 25, 3) := by decide +kernel
theorem dX4_text_42 : decode cX4_text 42 = .ok (.iconst 0, 1) := by decide +kernel
theorem dX4_text_43 : decode cX4_text 43 = .ok (.putfield 213, 3) := by decide +kernel
theorem dX4_text_46 : decode cX4_text 46 = .ok (.iload_n 1, 1) := by decide +kernel
theorem dX4_text_47 : decode cX4_text 47 = .ok (.ireturn, 1) := by decide +kernel
set_option maxHeartbeats 4000000 in
set_option maxRecDepth 100000 in
theorem g_X4_text {E : fh_E} {M : fh_M} (C : fh_Cx E M cX4_text 2 RX4 ((some FieldType.int)) rm_X4_text) (Hr : fh_Rt E M) (k1 : Nat) (σ2 : fh_S) : fh_Go E M 2 fh_vI 0 [(0, .ref (fh_ad E k1))] [] σ2 (f_X4_text k1 σ2) := by
  have hok := fh_cok C
  refine go_ob ?_
  refine go_aload_n C 0 rfl rfl dX4_text_0 ?_
  refine go_gr (ci := 4) (j := 2) C fh_in4 rfl (by decide) rfl q_140 dX4_text_1 (fun k3 => ?_)
  refine go_aload_n C 0 rfl rfl dX4_text_4 ?_
  refine go_gr (ci := 4) (j := 0) C fh_in4 rfl (by decide) rfl q_138 dX4_text_5 (fun k4 => ?_)
  refine go_callVU C (st := []) [.ref (fh_ad E k4)] (m_X0_become E _ hok k3 k4 σ2) (fun _ h => fh_ob_ok h) rfl rfl ⟨q_378, q_379, q_380, q_2, q_381⟩ pd_X0_become rfl ⟨⟨Nat.le_of_ble_eq_true rfl, Nat.le_of_ble_eq_true rfl⟩, rfl, rfl⟩ (Nat.le_of_ble_eq_true rfl) dX4_text_8 (fun _ σ5 => ?_)
  refine go_aload_n C 0 rfl rfl dX4_text_11 ?_
  refine go_gr (ci := 4) (j := 4) C fh_in4 rfl (by decide) rfl q_142 dX4_text_12 (fun k6 => ?_)
  refine go_aload_n C 0 rfl rfl dX4_text_15 ?_
  refine go_gr (ci := 4) (j := 2) C fh_in4 rfl (by decide) rfl q_140 dX4_text_16 (fun k7 => ?_)
  refine go_callVI C (st := []) [.ref (fh_ad E k7)] (m_X1_readInto E _ hok k6 k7 σ5) (fun _ h => fh_ob_ok h) rfl rfl ⟨q_530, q_531, q_532, q_4, q_533⟩ pd_X1_readInto rfl ⟨⟨Nat.le_of_ble_eq_true rfl, Nat.le_of_ble_eq_true rfl⟩, rfl, rfl⟩ (Nat.le_of_ble_eq_true rfl) dX4_text_19 (fun r9 σ8 => ?_)
  refine go_istore_n C [(1, .int r9), (0, .ref (fh_ad E k1))] rfl rfl (by decide) dX4_text_22 ?_
  refine go_iload_n C 0 rfl rfl dX4_text_23 ?_
  refine go_jn (fun (j13 : fh_S → Option (Int32 × fh_S)) => ∀ (σ10 : fh_S), fh_Go E M 2 fh_vI 38 [(0, .ref (fh_ad E k1)), (1, .int r9)] [] σ10 (j13 σ10)) ?_ (fun j13 hj13 => ?_)
  · intro σ10
    refine go_aload_n C 0 rfl rfl dX4_text_38 ?_
    refine go_gr (ci := 4) (j := 3) C fh_in4 rfl (by decide) rfl q_141 dX4_text_39 (fun k11 => ?_)
    refine go_iconst C (0 : Int32) dX4_text_42 rfl ?_
    refine go_pf (ci := 3) (j := 1) C tyX3 tyX3_ok nmX3 fh_in3 rfl (by decide) rfl q_87 rfl rfl dX4_text_43 (fun σ12 => ?_)
    refine go_iload_n C 1 rfl rfl dX4_text_46 ?_
    exact go_iret C Hr rfl dX4_text_47
  refine go_if_lt (tgt := 38) C dX4_text_24 rfl (fun _ => ?_) (fun _ => ?_)
  · refine go_lv [1, 0] (lv' := [(0, .ref (fh_ad E k1)), (1, .int r9)]) rfl ?_
    exact hj13 σ8
  · refine go_aload_n C 1 rfl rfl dX4_text_27 ?_
    refine go_gr (ci := 4) (j := 0) C fh_in4 rfl (by decide) rfl q_138 dX4_text_28 (fun k14 => ?_)
    refine go_aload_n C 1 rfl rfl dX4_text_31 ?_
    refine go_gr (ci := 4) (j := 2) C fh_in4 rfl (by decide) rfl q_140 dX4_text_32 (fun k15 => ?_)
    refine go_callVU C (st := []) [.ref (fh_ad E k15)] (m_X0_become E _ hok k14 k15 σ8) (fun _ h => fh_ob_ok h) rfl rfl ⟨q_378, q_379, q_380, q_2, q_381⟩ pd_X0_become rfl ⟨⟨Nat.le_of_ble_eq_true rfl, Nat.le_of_ble_eq_true rfl⟩, rfl, rfl⟩ (Nat.le_of_ble_eq_true rfl) dX4_text_35 (fun _ σ16 => ?_)
    refine go_lv [1, 0] (lv' := [(0, .ref (fh_ad E k1)), (1, .int r9)]) rfl ?_
    exact hj13 σ16
theorem m_X4_text (E : fh_E) (l : Launch) (hok : fh_ok E) (k1 : Nat) (σ2 : fh_S) : fh_Met E l yX4_text cX4_text 2 ((some FieldType.int)) rm_X4_text fh_vI [.ref (fh_ad E k1)] σ2 (f_X4_text k1 σ2) := fh_met hok (by decide +kernel) (Nat.le_of_ble_eq_true rfl) (fun M _ C Hr => g_X4_text C Hr k1 σ2)
def f_X4_isSpot (a1 : Int32) (σ2 : fh_S) : Option (Int32 × fh_S) := fh_cb (f_X4_isWithin a1 ((0 : Int32)) ((9 : Int32)) σ2) fun r4 σ3 => fh_rz r4 σ3
abbrev rm_X4_isSpot : Room := { frames := 1, cells := 0, slots := 0, locals := 22 }
theorem pd_X4_isSpot : yX4_isSpot.cls ≠ "java/lang/invoke/MethodHandle" ∧ yX4_isSpot.cls ≠ "java/lang/invoke/VarHandle" ∧ (parseMethodDescriptor yX4_isSpot.desc).map (fun d => d.parameters.length) = some 1 := by decide +kernel
theorem dX4_isSpot_0 : decode cX4_isSpot 0 = .ok (.iload_n 0, 1) := by decide +kernel
theorem dX4_isSpot_1 : decode cX4_isSpot 1 = .ok (.iconst 0, 1) := by decide +kernel
theorem dX4_isSpot_2 : decode cX4_isSpot 2 = .ok (.bipush 9, 2) := by decide +kernel
theorem dX4_isSpot_4 : decode cX4_isSpot 4 = .ok (.invokestatic 84, 3) := by decide +kernel
theorem dX4_isSpot_7 : decode cX4_isSpot 7 = .ok (.ireturn, 1) := by decide +kernel
set_option maxHeartbeats 4000000 in
set_option maxRecDepth 100000 in
theorem g_X4_isSpot {E : fh_E} {M : fh_M} (C : fh_Cx E M cX4_isSpot 1 RX4 ((some FieldType.boolean)) rm_X4_isSpot) (Hr : fh_Rt E M) (a1 : Int32) (σ2 : fh_S) : fh_Go E M 1 fh_vI 0 [(0, .int a1)] [] σ2 (f_X4_isSpot a1 σ2) := by
  have hok := fh_cok C
  refine go_iload_n C 0 rfl rfl dX4_isSpot_0 ?_
  refine go_iconst C (0 : Int32) dX4_isSpot_1 rfl ?_
  refine go_bipush C (9 : Int32) dX4_isSpot_2 rfl ?_
  refine go_callSI C (st := []) [.int a1, .int ((0 : Int32)), .int ((9 : Int32))] (m_X4_isWithin E _ hok a1 ((0 : Int32)) ((9 : Int32)) σ2) rfl ⟨q_172, q_173, q_1, q_174⟩ pd_X4_isWithin rfl ⟨⟨Nat.le_of_ble_eq_true rfl, Nat.le_of_ble_eq_true rfl⟩, rfl, rfl⟩ (Nat.le_of_ble_eq_true rfl) dX4_isSpot_4 (fun r4 σ3 => ?_)
  exact go_zret C Hr dX4_isSpot_7
theorem m_X4_isSpot (E : fh_E) (l : Launch) (hok : fh_ok E) (a1 : Int32) (σ2 : fh_S) : fh_Met E l yX4_isSpot cX4_isSpot 1 ((some FieldType.boolean)) rm_X4_isSpot fh_vI [.int a1] σ2 (f_X4_isSpot a1 σ2) := fh_met hok (by decide +kernel) (Nat.le_of_ble_eq_true rfl) (fun M _ C Hr => g_X4_isSpot C Hr a1 σ2)
def f_X4_hold_J23 (k1 : Nat) : fh_S → Option (Int32 × fh_S) := fun σ7 => fh_cb (f_X4_tell k1 ((-1000001 : Int32)) σ7) fun r9 σ8 => some (r9, σ8)
def f_X4_hold_J30 (k1 : Nat) (a2 : Int32) (a3 : Int32) : fh_S → Option (Int32 × fh_S) := fun σ11 => (fh_gr 4 k1 0).bind fun k12 => (fh_gr 0 k12 6).bind fun k13 => (fh_st σ11 k13 a2 a3).bind fun σ14 => some ((1 : Int32), σ14)
def f_X4_hold (k1 : Nat) (a2 : Int32) (a3 : Int32) (σ4 : fh_S) : Option (Int32 × fh_S) := fh_ob 4 k1 (fh_cb (f_X4_isSpot a2 σ4) fun r6 σ5 => fh_jn (f_X4_hold_J23 k1) (fun j10 => if r6 = 0 then j10 σ5 else fh_jn (f_X4_hold_J30 k1 a2 a3) (fun j15 => if a3 = ((-1 : Int32)) then j15 σ5 else (fh_gr 4 k1 0).bind fun k16 => fh_cb (f_X0_has k16 a3 σ5) fun r18 σ17 => if r18 = 0 then j10 σ17 else j15 σ17)))
abbrev rm_X4_hold : Room := { frames := 2, cells := 0, slots := 0, locals := 44 }
theorem pd_X4_hold : yX4_hold.cls ≠ "java/lang/invoke/MethodHandle" ∧ yX4_hold.cls ≠ "java/lang/invoke/VarHandle" ∧ (parseMethodDescriptor yX4_hold.desc).map (fun d => d.parameters.length) = some 2 := by decide +kernel
theorem dX4_hold_0 : decode cX4_hold 0 = .ok (.iload_n 1, 1) := by decide +kernel
theorem dX4_hold_1 : decode cX4_hold 1 = .ok (.invokestatic 221, 3) := by decide +kernel
theorem dX4_hold_4 : decode cX4_hold 4 = .ok (.ifCond .eq 19, 3) := by decide +kernel
theorem dX4_hold_7 : decode cX4_hold 7 = .ok (.iload_n 2, 1) := by decide +kernel
theorem dX4_hold_8 : decode cX4_hold 8 = .ok (.iconst (-1), 1) := by decide +kernel
theorem dX4_hold_9 : decode cX4_hold 9 = .ok (.if_icmp .eq 21, 3) := by decide +kernel
theorem dX4_hold_12 : decode cX4_hold 12 = .ok (.aload_n 0, 1) := by decide +kernel
theorem dX4_hold_13 : decode cX4_hold 13 = .ok (.getfield 12, 3) := by decide +kernel
theorem dX4_hold_16 : decode cX4_hold 16 = .ok (.iload_n 2, 1) := by decide +kernel
theorem dX4_hold_17 : decode cX4_hold 17 = .ok (.invokevirtual 70, 3) := by decide +kernel
theorem dX4_hold_20 : decode cX4_hold 20 = .ok (.ifCond .ne 10, 3) := by decide +kernel
theorem dX4_hold_23 : decode cX4_hold 23 = .ok (.aload_n 0, 1) := by decide +kernel
theorem dX4_hold_24 : decode cX4_hold 24 = .ok (.ldc 57, 2) := by decide +kernel
theorem dX4_hold_26 : decode cX4_hold 26 = .ok (.invokevirtual 58, 3) := by decide +kernel
theorem dX4_hold_29 : decode cX4_hold 29 = .ok (.ireturn, 1) := by decide +kernel
theorem dX4_hold_30 : decode cX4_hold 30 = .ok (.aload_n 0, 1) := by decide +kernel
theorem dX4_hold_31 : decode cX4_hold 31 = .ok (.getfield 12, 3) := by decide +kernel
theorem dX4_hold_34 : decode cX4_hold 34 = .ok (.getfield 224, 3) := by decide +kernel
theorem dX4_hold_37 : decode cX4_hold 37 = .ok (.iload_n 1, 1) := by decide +kernel
theorem dX4_hold_38 : decode cX4_hold 38 = .ok (.iload_n 2, 1) := by decide +kernel
theorem dX4_hold_39 : decode cX4_hold 39 = .ok (.iastore, 1) := by decide +kernel
theorem dX4_hold_40 : decode cX4_hold 40 = .ok (.iconst 1, 1) := by decide +kernel
theorem dX4_hold_41 : decode cX4_hold 41 = .ok (.ireturn, 1) := by decide +kernel
set_option maxHeartbeats 4000000 in
set_option maxRecDepth 100000 in
theorem g_X4_hold {E : fh_E} {M : fh_M} (C : fh_Cx E M cX4_hold 3 RX4 ((some FieldType.int)) rm_X4_hold) (Hr : fh_Rt E M) (k1 : Nat) (a2 : Int32) (a3 : Int32) (σ4 : fh_S) : fh_Go E M 3 fh_vI 0 [(0, .ref (fh_ad E k1)), (1, .int a2), (2, .int a3)] [] σ4 (f_X4_hold k1 a2 a3 σ4) := by
  have hok := fh_cok C
  refine go_ob ?_
  refine go_iload_n C 1 rfl rfl dX4_hold_0 ?_
  refine go_callSI C (st := []) [.int a2] (m_X4_isSpot E _ hok a2 σ4) rfl ⟨q_662, q_663, q_1, q_664⟩ pd_X4_isSpot rfl ⟨⟨Nat.le_of_ble_eq_true rfl, Nat.le_of_ble_eq_true rfl⟩, rfl, rfl⟩ (Nat.le_of_ble_eq_true rfl) dX4_hold_1 (fun r6 σ5 => ?_)
  refine go_jn (fun (j10 : fh_S → Option (Int32 × fh_S)) => ∀ (σ7 : fh_S), fh_Go E M 3 fh_vI 23 [(0, .ref (fh_ad E k1))] [] σ7 (j10 σ7)) ?_ (fun j10 hj10 => ?_)
  · intro σ7
    refine go_aload_n C 0 rfl rfl dX4_hold_23 ?_
    refine go_ldc C q_175 dX4_hold_24 ?_
    refine go_callVI C (st := []) [.int ((-1000001 : Int32))] (m_X4_tell E _ hok k1 ((-1000001 : Int32)) σ7) (fun _ h => fh_ob_ok h) rfl rfl ⟨q_176, q_178, qs_0, q_1, q_179⟩ pd_X4_tell rfl ⟨⟨Nat.le_of_ble_eq_true rfl, Nat.le_of_ble_eq_true rfl⟩, rfl, rfl⟩ (Nat.le_of_ble_eq_true rfl) dX4_hold_26 (fun r9 σ8 => ?_)
    exact go_iret C Hr rfl dX4_hold_29
  refine go_if_eq (tgt := 23) C dX4_hold_4 rfl (fun _ => ?_) (fun _ => ?_)
  · refine go_lv [0] (lv' := [(0, .ref (fh_ad E k1))]) rfl ?_
    exact hj10 σ5
  · refine go_iload_n C 2 rfl rfl dX4_hold_7 ?_
    refine go_iconst C (-1 : Int32) dX4_hold_8 rfl ?_
    refine go_jn (fun (j15 : fh_S → Option (Int32 × fh_S)) => ∀ (σ11 : fh_S), fh_Go E M 3 fh_vI 30 [(0, .ref (fh_ad E k1)), (1, .int a2), (2, .int a3)] [] σ11 (j15 σ11)) ?_ (fun j15 hj15 => ?_)
    · intro σ11
      refine go_aload_n C 0 rfl rfl dX4_hold_30 ?_
      refine go_gr (ci := 4) (j := 0) C fh_in4 rfl (by decide) rfl q_138 dX4_hold_31 (fun k12 => ?_)
      refine go_gr (ci := 0) (j := 6) C fh_in0 rfl (by decide) rfl q_43 dX4_hold_34 (fun k13 => ?_)
      refine go_iload_n C 1 rfl rfl dX4_hold_37 ?_
      refine go_iload_n C 2 rfl rfl dX4_hold_38 ?_
      refine go_iast C dX4_hold_39 (fun σ14 => ?_)
      refine go_iconst C (1 : Int32) dX4_hold_40 rfl ?_
      exact go_iret C Hr rfl dX4_hold_41
    refine go_icmp_eq (tgt := 30) C dX4_hold_9 rfl (fun _ => ?_) (fun _ => ?_)
    · exact hj15 σ5
    · refine go_aload_n C 0 rfl rfl dX4_hold_12 ?_
      refine go_gr (ci := 4) (j := 0) C fh_in4 rfl (by decide) rfl q_138 dX4_hold_13 (fun k16 => ?_)
      refine go_iload_n C 2 rfl rfl dX4_hold_16 ?_
      refine go_callVI C (st := []) [.int a3] (m_X0_has E _ hok k16 a3 σ5) (fun _ h => fh_ob_ok h) rfl rfl ⟨q_196, q_197, q_198, q_2, q_199⟩ pd_X0_has rfl ⟨⟨Nat.le_of_ble_eq_true rfl, Nat.le_of_ble_eq_true rfl⟩, rfl, rfl⟩ (Nat.le_of_ble_eq_true rfl) dX4_hold_17 (fun r18 σ17 => ?_)
      refine go_if_ne (tgt := 30) C dX4_hold_20 rfl (fun _ => ?_) (fun _ => ?_)
      · exact hj15 σ17
      · refine go_lv [0] (lv' := [(0, .ref (fh_ad E k1))]) rfl ?_
        exact hj10 σ17
theorem m_X4_hold (E : fh_E) (l : Launch) (hok : fh_ok E) (k1 : Nat) (a2 : Int32) (a3 : Int32) (σ4 : fh_S) : fh_Met E l yX4_hold cX4_hold 3 ((some FieldType.int)) rm_X4_hold fh_vI [.ref (fh_ad E k1), .int a2, .int a3] σ4 (f_X4_hold k1 a2 a3 σ4) := fh_met hok (by decide +kernel) (Nat.le_of_ble_eq_true rfl) (fun M _ C Hr => g_X4_hold C Hr k1 a2 a3 σ4)
def f_X4_isOfKind_B4 (a2 : Int32) (r7 : Int32 → Int32 → fh_S → Option (Int32 × fh_S)) : Int32 → Int32 → fh_S → Option (Int32 × fh_S) := fun x4 x5 σ6 => if ((7 : Int32)) ≤ x5 then fh_rz ((0 : Int32)) σ6 else fh_cb (f_X4_isKind x4 σ6) fun r9 σ8 => if r9 = 0 then fh_rz ((0 : Int32)) σ8 else if x4 = a2 then fh_rz ((1 : Int32)) σ8 else (fh_tk x4).bind fun v10 => r7 v10 (x5 + 1) σ8
def f_X4_isOfKind (a1 : Int32) (a2 : Int32) (σ3 : fh_S) : Option (Int32 × fh_S) := fh_fx (ρ := Int32 → Int32 → fh_S → Option (Int32 × fh_S)) (fun _ _ _ => none) (f_X4_isOfKind_B4 a2) fh_fu a1 ((0 : Int32)) σ3
abbrev rm_X4_isOfKind : Room := { frames := 2, cells := 0, slots := 0, locals := 42 }
theorem pd_X4_isOfKind : yX4_isOfKind.cls ≠ "java/lang/invoke/MethodHandle" ∧ yX4_isOfKind.cls ≠ "java/lang/invoke/VarHandle" ∧ (parseMethodDescriptor yX4_isOfKind.desc).map (fun d => d.parameters.length) = some 2 := by decide +kernel
theorem dX4_isOfKind_0 : decode cX4_isOfKind 0 = .ok (.iload_n 0, 1) := by decide +kernel
theorem dX4_isOfKind_1 : decode cX4_isOfKind 1 = .ok (.istore_n 2, 1) := by decide +kernel
theorem dX4_isOfKind_2 : decode cX4_isOfKind 2 = .ok (.iconst 0, 1) := by decide +kernel
theorem dX4_isOfKind_3 : decode cX4_isOfKind 3 = .ok (.istore_n 3, 1) := by decide +kernel
theorem dX4_isOfKind_4 : decode cX4_isOfKind 4 = .ok (.iload_n 3, 1) := by decide +kernel
theorem dX4_isOfKind_5 : decode cX4_isOfKind 5 = .ok (.getstatic 174, 3) := by decide +kernel
theorem dX4_isOfKind_8 : decode cX4_isOfKind 8 = .ok (.arraylength, 1) := by decide +kernel
theorem dX4_isOfKind_9 : decode cX4_isOfKind 9 = .ok (.if_icmp .ge 29, 3) := by decide +kernel
theorem dX4_isOfKind_12 : decode cX4_isOfKind 12 = .ok (.iload_n 2, 1) := by decide +kernel
theorem dX4_isOfKind_13 : decode cX4_isOfKind 13 = .ok (.invokestatic 53, 3) := by decide +kernel
theorem dX4_isOfKind_16 : decode cX4_isOfKind 16 = .ok (.ifCond .eq 22, 3) := by decide +kernel
theorem dX4_isOfKind_19 : decode cX4_isOfKind 19 = .ok (.iload_n 2, 1) := by decide +kernel
theorem dX4_isOfKind_20 : decode cX4_isOfKind 20 = .ok (.iload_n 1, 1) := by decide +kernel
theorem dX4_isOfKind_21 : decode cX4_isOfKind 21 = .ok (.if_icmp .ne 5, 3) := by decide +kernel
theorem dX4_isOfKind_24 : decode cX4_isOfKind 24 = .ok (.iconst 1, 1) := by decide +kernel
theorem dX4_isOfKind_25 : decode cX4_isOfKind 25 = .ok (.ireturn, 1) := by decide +kernel
theorem dX4_isOfKind_26 : decode cX4_isOfKind 26 = .ok (.getstatic 174, 3) := by decide +kernel
theorem dX4_isOfKind_29 : decode cX4_isOfKind 29 = .ok (.iload_n 2, 1) := by decide +kernel
theorem dX4_isOfKind_30 : decode cX4_isOfKind 30 = .ok (.iaload, 1) := by decide +kernel
theorem dX4_isOfKind_31 : decode cX4_isOfKind 31 = .ok (.istore_n 2, 1) := by decide +kernel
theorem dX4_isOfKind_32 : decode cX4_isOfKind 32 = .ok (.iinc 3 1, 3) := by decide +kernel
theorem dX4_isOfKind_35 : decode cX4_isOfKind 35 = .ok (.goto (-31), 3) := by decide +kernel
theorem dX4_isOfKind_38 : decode cX4_isOfKind 38 = .ok (.iconst 0, 1) := by decide +kernel
theorem dX4_isOfKind_39 : decode cX4_isOfKind 39 = .ok (.ireturn, 1) := by decide +kernel
set_option maxHeartbeats 4000000 in
set_option maxRecDepth 100000 in
theorem g_X4_isOfKind {E : fh_E} {M : fh_M} (C : fh_Cx E M cX4_isOfKind 4 RX4 ((some FieldType.boolean)) rm_X4_isOfKind) (Hr : fh_Rt E M) (a1 : Int32) (a2 : Int32) (σ3 : fh_S) : fh_Go E M 4 fh_vI 0 [(0, .int a1), (1, .int a2)] [] σ3 (f_X4_isOfKind a1 a2 σ3) := by
  have hok := fh_cok C
  refine go_iload_n C 0 rfl rfl dX4_isOfKind_0 ?_
  refine go_istore_n C [(2, .int a1), (0, .int a1), (1, .int a2)] rfl rfl (by decide) dX4_isOfKind_1 ?_
  refine go_iconst C (0 : Int32) dX4_isOfKind_2 rfl ?_
  refine go_istore_n C [(3, .int ((0 : Int32))), (2, .int a1), (0, .int a1), (1, .int a2)] rfl rfl (by decide) dX4_isOfKind_3 ?_
  refine go_lv [3, 1, 0] (lv' := [(1, .int a2), (2, .int a1), (3, .int ((0 : Int32)))]) rfl ?_
  refine go_fx (fun (r7 : Int32 → Int32 → fh_S → Option (Int32 × fh_S)) => ∀ (x4 : Int32) (x5 : Int32) (σ6 : fh_S), fh_Go E M 4 fh_vI 4 [(1, .int a2), (2, .int x4), (3, .int x5)] [] σ6 (r7 x4 x5 σ6)) ?_ ?_ fh_fu a1 ((0 : Int32)) σ3
  · intro x4 x5 σ6
    exact go_none
  · intro r7 hr7 x4 x5 σ6
    refine go_iload_n C 2 rfl rfl dX4_isOfKind_4 ?_
    refine go_tu C q_170 dX4_isOfKind_5 ?_
    refine go_tl C dX4_isOfKind_8 ?_
    refine go_icmp_ge (tgt := 38) C dX4_isOfKind_9 rfl (fun _ => ?_) (fun _ => ?_)
    · refine go_iconst C (0 : Int32) dX4_isOfKind_38 rfl ?_
      exact go_zret C Hr dX4_isOfKind_39
    · refine go_iload_n C 1 rfl rfl dX4_isOfKind_12 ?_
      refine go_callSI C (st := []) [.int x4] (m_X4_isKind E _ hok x4 σ6) rfl ⟨q_167, q_168, q_1, q_169⟩ pd_X4_isKind rfl ⟨⟨Nat.le_of_ble_eq_true rfl, Nat.le_of_ble_eq_true rfl⟩, rfl, rfl⟩ (Nat.le_of_ble_eq_true rfl) dX4_isOfKind_13 (fun r9 σ8 => ?_)
      refine go_if_eq (tgt := 38) C dX4_isOfKind_16 rfl (fun _ => ?_) (fun _ => ?_)
      · refine go_iconst C (0 : Int32) dX4_isOfKind_38 rfl ?_
        exact go_zret C Hr dX4_isOfKind_39
      · refine go_iload_n C 1 rfl rfl dX4_isOfKind_19 ?_
        refine go_iload_n C 0 rfl rfl dX4_isOfKind_20 ?_
        refine go_icmp_ne (tgt := 26) C dX4_isOfKind_21 rfl (fun _ => ?_) (fun _ => ?_)
        · refine go_tu C q_170 dX4_isOfKind_26 ?_
          refine go_iload_n C 1 rfl rfl dX4_isOfKind_29 ?_
          refine go_tk C dX4_isOfKind_30 (fun v10 => ?_)
          refine go_istore_n C [(2, .int v10), (1, .int a2), (3, .int x5)] rfl rfl (by decide) dX4_isOfKind_31 ?_
          refine go_iinc C (x5 + 1) 2 [(3, .int (x5 + 1)), (2, .int v10), (1, .int a2)] rfl rfl rfl (by decide) dX4_isOfKind_32 ?_
          refine go_goto C 4 dX4_isOfKind_35 rfl ?_
          refine go_lv [2, 1, 0] (lv' := [(1, .int a2), (2, .int v10), (3, .int (x5 + 1))]) rfl ?_
          exact hr7 v10 (x5 + 1) σ8
        · refine go_iconst C (1 : Int32) dX4_isOfKind_24 rfl ?_
          exact go_zret C Hr dX4_isOfKind_25
theorem m_X4_isOfKind (E : fh_E) (l : Launch) (hok : fh_ok E) (a1 : Int32) (a2 : Int32) (σ3 : fh_S) : fh_Met E l yX4_isOfKind cX4_isOfKind 4 ((some FieldType.boolean)) rm_X4_isOfKind fh_vI [.int a1, .int a2] σ3 (f_X4_isOfKind a1 a2 σ3) := fh_met hok (by decide +kernel) (Nat.le_of_ble_eq_true rfl) (fun M _ C Hr => g_X4_isOfKind C Hr a1 a2 σ3)
def f_X4_as_J14 (k1 : Nat) : fh_S → Option (Int32 × fh_S) := fun σ7 => fh_cb (f_X4_tell k1 ((-1000001 : Int32)) σ7) fun r9 σ8 => some (r9, σ8)
def f_X4_as (k1 : Nat) (a2 : Int32) (a3 : Int32) (σ4 : fh_S) : Option (Int32 × fh_S) := fh_ob 4 k1 (fh_cb (f_X4_isSpot a2 σ4) fun r6 σ5 => fh_jn (f_X4_as_J14 k1) (fun j10 => if r6 = 0 then j10 σ5 else fh_cb (f_X4_isKind a3 σ5) fun r12 σ11 => if r12 = 0 then j10 σ11 else (fh_gr 4 k1 0).bind fun k13 => (fh_gr 0 k13 6).bind fun k14 => (fh_ld σ11 k14 a2).bind fun v15 => (fh_gr 4 k1 0).bind fun k16 => fh_cb (f_X0_has k16 v15 σ11) fun r18 σ17 => if r18 = 0 then fh_cb (f_X4_tell k1 ((-1000006 : Int32)) σ17) fun r27 σ26 => some (r27, σ26) else (fh_gr 4 k1 0).bind fun k19 => (fh_gr 0 k19 0).bind fun k20 => (fh_ld σ17 k20 v15).bind fun v21 => fh_cb (f_X4_isOfKind v21 a3 σ17) fun r23 σ22 => if r23 = 0 then fh_cb (f_X4_tell k1 ((-1000003 : Int32)) σ22) fun r25 σ24 => some (r25, σ24) else some (v15, σ22)))
abbrev rm_X4_as : Room := { frames := 3, cells := 0, slots := 0, locals := 65 }
theorem pd_X4_as : yX4_as.cls ≠ "java/lang/invoke/MethodHandle" ∧ yX4_as.cls ≠ "java/lang/invoke/VarHandle" ∧ (parseMethodDescriptor yX4_as.desc).map (fun d => d.parameters.length) = some 2 := by decide +kernel
theorem dX4_as_0 : decode cX4_as 0 = .ok (.iload_n 1, 1) := by decide +kernel
theorem dX4_as_1 : decode cX4_as 1 = .ok (.invokestatic 221, 3) := by decide +kernel
theorem dX4_as_4 : decode cX4_as 4 = .ok (.ifCond .eq 10, 3) := by decide +kernel
theorem dX4_as_7 : decode cX4_as 7 = .ok (.iload_n 2, 1) := by decide +kernel
theorem dX4_as_8 : decode cX4_as 8 = .ok (.invokestatic 53, 3) := by decide +kernel
theorem dX4_as_11 : decode cX4_as 11 = .ok (.ifCond .ne 10, 3) := by decide +kernel
theorem dX4_as_14 : decode cX4_as 14 = .ok (.aload_n 0, 1) := by decide +kernel
theorem dX4_as_15 : decode cX4_as 15 = .ok (.ldc 57, 2) := by decide +kernel
theorem dX4_as_17 : decode cX4_as 17 = .ok (.invokevirtual 58, 3) := by decide +kernel
theorem dX4_as_20 : decode cX4_as 20 = .ok (.ireturn, 1) := by decide +kernel
theorem dX4_as_21 : decode cX4_as 21 = .ok (.aload_n 0, 1) := by decide +kernel
theorem dX4_as_22 : decode cX4_as 22 = .ok (.getfield 12, 3) := by decide +kernel
theorem dX4_as_25 : decode cX4_as 25 = .ok (.getfield 224, 3) := by decide +kernel
theorem dX4_as_28 : decode cX4_as 28 = .ok (.iload_n 1, 1) := by decide +kernel
theorem dX4_as_29 : decode cX4_as 29 = .ok (.iaload, 1) := by decide +kernel
theorem dX4_as_30 : decode cX4_as 30 = .ok (.istore_n 3, 1) := by decide +kernel
theorem dX4_as_31 : decode cX4_as 31 = .ok (.aload_n 0, 1) := by decide +kernel
theorem dX4_as_32 : decode cX4_as 32 = .ok (.getfield 12, 3) := by decide +kernel
theorem dX4_as_35 : decode cX4_as 35 = .ok (.iload_n 3, 1) := by decide +kernel
theorem dX4_as_36 : decode cX4_as 36 = .ok (.invokevirtual 70, 3) := by decide +kernel
theorem dX4_as_39 : decode cX4_as 39 = .ok (.ifCond .ne 10, 3) := by decide +kernel
theorem dX4_as_42 : decode cX4_as 42 = .ok (.aload_n 0, 1) := by decide +kernel
theorem dX4_as_43 : decode cX4_as 43 = .ok (.ldc 227, 2) := by decide +kernel
theorem dX4_as_45 : decode cX4_as 45 = .ok (.invokevirtual 58, 3) := by decide +kernel
theorem dX4_as_48 : decode cX4_as 48 = .ok (.ireturn, 1) := by decide +kernel
theorem dX4_as_49 : decode cX4_as 49 = .ok (.aload_n 0, 1) := by decide +kernel
theorem dX4_as_50 : decode cX4_as 50 = .ok (.getfield 12, 3) := by decide +kernel
theorem dX4_as_53 : decode cX4_as 53 = .ok (.getfield 197, 3) := by decide +kernel
theorem dX4_as_56 : decode cX4_as 56 = .ok (.iload_n 3, 1) := by decide +kernel
theorem dX4_as_57 : decode cX4_as 57 = .ok (.iaload, 1) := by decide +kernel
theorem dX4_as_58 : decode cX4_as 58 = .ok (.iload_n 2, 1) := by decide +kernel
theorem dX4_as_59 : decode cX4_as 59 = .ok (.invokestatic 228, 3) := by decide +kernel
theorem dX4_as_62 : decode cX4_as 62 = .ok (.ifCond .eq 7, 3) := by decide +kernel
theorem dX4_as_65 : decode cX4_as 65 = .ok (.iload_n 3, 1) := by decide +kernel
theorem dX4_as_66 : decode cX4_as 66 = .ok (.goto 9, 3) := by decide +kernel
theorem dX4_as_69 : decode cX4_as 69 = .ok (.aload_n 0, 1) := by decide +kernel
theorem dX4_as_70 : decode cX4_as 70 = .ok (.ldc 231, 2) := by decide +kernel
theorem dX4_as_72 : decode cX4_as 72 = .ok (.invokevirtual 58, 3) := by decide +kernel
theorem dX4_as_75 : decode cX4_as 75 = .ok (.ireturn, 1) := by decide +kernel
set_option maxHeartbeats 4000000 in
set_option maxRecDepth 100000 in
theorem g_X4_as {E : fh_E} {M : fh_M} (C : fh_Cx E M cX4_as 4 RX4 ((some FieldType.int)) rm_X4_as) (Hr : fh_Rt E M) (k1 : Nat) (a2 : Int32) (a3 : Int32) (σ4 : fh_S) : fh_Go E M 4 fh_vI 0 [(0, .ref (fh_ad E k1)), (1, .int a2), (2, .int a3)] [] σ4 (f_X4_as k1 a2 a3 σ4) := by
  have hok := fh_cok C
  refine go_ob ?_
  refine go_iload_n C 1 rfl rfl dX4_as_0 ?_
  refine go_callSI C (st := []) [.int a2] (m_X4_isSpot E _ hok a2 σ4) rfl ⟨q_662, q_663, q_1, q_664⟩ pd_X4_isSpot rfl ⟨⟨Nat.le_of_ble_eq_true rfl, Nat.le_of_ble_eq_true rfl⟩, rfl, rfl⟩ (Nat.le_of_ble_eq_true rfl) dX4_as_1 (fun r6 σ5 => ?_)
  refine go_jn (fun (j10 : fh_S → Option (Int32 × fh_S)) => ∀ (σ7 : fh_S), fh_Go E M 4 fh_vI 14 [(0, .ref (fh_ad E k1))] [] σ7 (j10 σ7)) ?_ (fun j10 hj10 => ?_)
  · intro σ7
    refine go_aload_n C 0 rfl rfl dX4_as_14 ?_
    refine go_ldc C q_175 dX4_as_15 ?_
    refine go_callVI C (st := []) [.int ((-1000001 : Int32))] (m_X4_tell E _ hok k1 ((-1000001 : Int32)) σ7) (fun _ h => fh_ob_ok h) rfl rfl ⟨q_176, q_178, qs_0, q_1, q_179⟩ pd_X4_tell rfl ⟨⟨Nat.le_of_ble_eq_true rfl, Nat.le_of_ble_eq_true rfl⟩, rfl, rfl⟩ (Nat.le_of_ble_eq_true rfl) dX4_as_17 (fun r9 σ8 => ?_)
    exact go_iret C Hr rfl dX4_as_20
  refine go_if_eq (tgt := 14) C dX4_as_4 rfl (fun _ => ?_) (fun _ => ?_)
  · refine go_lv [0] (lv' := [(0, .ref (fh_ad E k1))]) rfl ?_
    exact hj10 σ5
  · refine go_iload_n C 2 rfl rfl dX4_as_7 ?_
    refine go_callSI C (st := []) [.int a3] (m_X4_isKind E _ hok a3 σ5) rfl ⟨q_167, q_168, q_1, q_169⟩ pd_X4_isKind rfl ⟨⟨Nat.le_of_ble_eq_true rfl, Nat.le_of_ble_eq_true rfl⟩, rfl, rfl⟩ (Nat.le_of_ble_eq_true rfl) dX4_as_8 (fun r12 σ11 => ?_)
    refine go_if_ne (tgt := 21) C dX4_as_11 rfl (fun _ => ?_) (fun _ => ?_)
    · refine go_aload_n C 0 rfl rfl dX4_as_21 ?_
      refine go_gr (ci := 4) (j := 0) C fh_in4 rfl (by decide) rfl q_138 dX4_as_22 (fun k13 => ?_)
      refine go_gr (ci := 0) (j := 6) C fh_in0 rfl (by decide) rfl q_43 dX4_as_25 (fun k14 => ?_)
      refine go_iload_n C 1 rfl rfl dX4_as_28 ?_
      refine go_iald C dX4_as_29 (fun v15 => ?_)
      refine go_istore_n C [(3, .int v15), (0, .ref (fh_ad E k1)), (1, .int a2), (2, .int a3)] rfl rfl (by decide) dX4_as_30 ?_
      refine go_aload_n C 1 rfl rfl dX4_as_31 ?_
      refine go_gr (ci := 4) (j := 0) C fh_in4 rfl (by decide) rfl q_138 dX4_as_32 (fun k16 => ?_)
      refine go_iload_n C 0 rfl rfl dX4_as_35 ?_
      refine go_callVI C (st := []) [.int v15] (m_X0_has E _ hok k16 v15 σ11) (fun _ h => fh_ob_ok h) rfl rfl ⟨q_196, q_197, q_198, q_2, q_199⟩ pd_X0_has rfl ⟨⟨Nat.le_of_ble_eq_true rfl, Nat.le_of_ble_eq_true rfl⟩, rfl, rfl⟩ (Nat.le_of_ble_eq_true rfl) dX4_as_36 (fun r18 σ17 => ?_)
      refine go_if_ne (tgt := 49) C dX4_as_39 rfl (fun _ => ?_) (fun _ => ?_)
      · refine go_aload_n C 1 rfl rfl dX4_as_49 ?_
        refine go_gr (ci := 4) (j := 0) C fh_in4 rfl (by decide) rfl q_138 dX4_as_50 (fun k19 => ?_)
        refine go_gr (ci := 0) (j := 0) C fh_in0 rfl (by decide) rfl q_29 dX4_as_53 (fun k20 => ?_)
        refine go_iload_n C 0 rfl rfl dX4_as_56 ?_
        refine go_iald C dX4_as_57 (fun v21 => ?_)
        refine go_iload_n C 3 rfl rfl dX4_as_58 ?_
        refine go_callSI C (st := []) [.int v21, .int a3] (m_X4_isOfKind E _ hok v21 a3 σ17) rfl ⟨q_669, q_670, q_1, q_671⟩ pd_X4_isOfKind rfl ⟨⟨Nat.le_of_ble_eq_true rfl, Nat.le_of_ble_eq_true rfl⟩, rfl, rfl⟩ (Nat.le_of_ble_eq_true rfl) dX4_as_59 (fun r23 σ22 => ?_)
        refine go_if_eq (tgt := 69) C dX4_as_62 rfl (fun _ => ?_) (fun _ => ?_)
        · refine go_aload_n C 1 rfl rfl dX4_as_69 ?_
          refine go_ldc C q_672 dX4_as_70 ?_
          refine go_callVI C (st := []) [.int ((-1000003 : Int32))] (m_X4_tell E _ hok k1 ((-1000003 : Int32)) σ22) (fun _ h => fh_ob_ok h) rfl rfl ⟨q_176, q_178, qs_0, q_1, q_179⟩ pd_X4_tell rfl ⟨⟨Nat.le_of_ble_eq_true rfl, Nat.le_of_ble_eq_true rfl⟩, rfl, rfl⟩ (Nat.le_of_ble_eq_true rfl) dX4_as_72 (fun r25 σ24 => ?_)
          exact go_iret C Hr rfl dX4_as_75
        · refine go_iload_n C 0 rfl rfl dX4_as_65 ?_
          refine go_goto C 75 dX4_as_66 rfl ?_
          exact go_iret C Hr rfl dX4_as_75
      · refine go_aload_n C 1 rfl rfl dX4_as_42 ?_
        refine go_ldc C q_457 dX4_as_43 ?_
        refine go_callVI C (st := []) [.int ((-1000006 : Int32))] (m_X4_tell E _ hok k1 ((-1000006 : Int32)) σ17) (fun _ h => fh_ob_ok h) rfl rfl ⟨q_176, q_178, qs_0, q_1, q_179⟩ pd_X4_tell rfl ⟨⟨Nat.le_of_ble_eq_true rfl, Nat.le_of_ble_eq_true rfl⟩, rfl, rfl⟩ (Nat.le_of_ble_eq_true rfl) dX4_as_45 (fun r27 σ26 => ?_)
        exact go_iret C Hr rfl dX4_as_48
    · refine go_lv [0] (lv' := [(0, .ref (fh_ad E k1))]) rfl ?_
      exact hj10 σ11
theorem m_X4_as (E : fh_E) (l : Launch) (hok : fh_ok E) (k1 : Nat) (a2 : Int32) (a3 : Int32) (σ4 : fh_S) : fh_Met E l yX4_as cX4_as 4 ((some FieldType.int)) rm_X4_as fh_vI [.ref (fh_ad E k1), .int a2, .int a3] σ4 (f_X4_as k1 a2 a3 σ4) := fh_met hok (by decide +kernel) (Nat.le_of_ble_eq_true rfl) (fun M _ C Hr => g_X4_as C Hr k1 a2 a3 σ4)
