def f_X5_pace_J34 : Int32 → fh_S → Option (Int32 × fh_S) := fun x8 σ9 => fh_cb (f_J9_min_7cf53 ((99 : Int32)) x8 σ9) fun r11 σ10 => fh_cb (f_J9_max_7cf53 ((-99 : Int32)) r11 σ10) fun r13 σ12 => some (r13, σ12)
def f_X5_pace (k1 : Nat) (a2 : Int32) (σ3 : fh_S) : Option (Int32 × fh_S) := fh_ob 5 k1 (fh_cb (f_X5_plainPace k1 a2 σ3) fun r5 σ4 => fh_cb (f_X5_dialIs k1 a2 ((5 : Int32)) σ4) fun r7 σ6 => fh_jn (f_X5_pace_J34) (fun j14 => if r5 ≤ 0 then fh_cb (f_J9_min_7cf53 ((0 : Int32)) (r5 + r7) σ6) fun r16 σ15 => j14 r16 σ15 else fh_cb (f_J9_max_7cf53 ((0 : Int32)) (r5 - r7) σ6) fun r18 σ17 => j14 r18 σ17))
abbrev rm_X5_pace : Room := { frames := 4, cells := 0, slots := 0, locals := 87 }
theorem pd_X5_pace : yX5_pace.cls ≠ "java/lang/invoke/MethodHandle" ∧ yX5_pace.cls ≠ "java/lang/invoke/VarHandle" ∧ (parseMethodDescriptor yX5_pace.desc).map (fun d => d.parameters.length) = some 1 := by decide +kernel
theorem dX5_pace_0 : decode cX5_pace 0 = .ok (.aload_n 0, 1) := by decide +kernel
theorem dX5_pace_1 : decode cX5_pace 1 = .ok (.iload_n 1, 1) := by decide +kernel
theorem dX5_pace_2 : decode cX5_pace 2 = .ok (.invokevirtual 101, 3) := by decide +kernel
theorem dX5_pace_5 : decode cX5_pace 5 = .ok (.istore_n 2, 1) := by decide +kernel
theorem dX5_pace_6 : decode cX5_pace 6 = .ok (.aload_n 0, 1) := by decide +kernel
theorem dX5_pace_7 : decode cX5_pace 7 = .ok (.iload_n 1, 1) := by decide +kernel
theorem dX5_pace_8 : decode cX5_pace 8 = .ok (.iconst 5, 1) := by decide +kernel
theorem dX5_pace_9 : decode cX5_pace 9 = .ok (.invokevirtual 81, 3) := by decide +kernel
theorem dX5_pace_12 : decode cX5_pace 12 = .ok (.istore_n 3, 1) := by decide +kernel
theorem dX5_pace_13 : decode cX5_pace 13 = .ok (.iload_n 2, 1) := by decide +kernel
theorem dX5_pace_14 : decode cX5_pace 14 = .ok (.ifCond .le 13, 3) := by decide +kernel
theorem dX5_pace_17 : decode cX5_pace 17 = .ok (.iconst 0, 1) := by decide +kernel
theorem dX5_pace_18 : decode cX5_pace 18 = .ok (.iload_n 2, 1) := by decide +kernel
theorem dX5_pace_19 : decode cX5_pace 19 = .ok (.iload_n 3, 1) := by decide +kernel
theorem dX5_pace_20 : decode cX5_pace 20 = .ok (.isub, 1) := by decide +kernel
theorem dX5_pace_21 : decode cX5_pace 21 = .ok (.invokestatic 104, 3) := by decide +kernel
theorem dX5_pace_24 : decode cX5_pace 24 = .ok (.goto 10, 3) := by decide +kernel
theorem dX5_pace_27 : decode cX5_pace 27 = .ok (.iconst 0, 1) := by decide +kernel
theorem dX5_pace_28 : decode cX5_pace 28 = .ok (.iload_n 2, 1) := by decide +kernel
theorem dX5_pace_29 : decode cX5_pace 29 = .ok (.iload_n 3, 1) := by decide +kernel
theorem dX5_pace_30 : decode cX5_pace 30 = .ok (.iadd, 1) := by decide +kernel
theorem dX5_pace_31 : decode cX5_pace 31 = .ok (.invokestatic 109, 3) := by decide +kernel
theorem dX5_pace_34 : decode cX5_pace 34 = .ok (.istore 4, 2) := by decide +kernel
theorem dX5_pace_36 : decode cX5_pace 36 = .ok (.bipush (-99), 2) := by decide +kernel
theorem dX5_pace_38 : decode cX5_pace 38 = .ok (.bipush 99, 2) := by decide +kernel
theorem dX5_pace_40 : decode cX5_pace 40 = .ok (.iload 4, 2) := by decide +kernel
theorem dX5_pace_42 : decode cX5_pace 42 = .ok (.invokestatic 109, 3) := by decide +kernel
theorem dX5_pace_45 : decode cX5_pace 45 = .ok (.invokestatic 104, 3) := by decide +kernel
theorem dX5_pace_48 : decode cX5_pace 48 = .ok (.ireturn, 1) := by decide +kernel
set_option maxHeartbeats 4000000 in
set_option maxRecDepth 100000 in
theorem g_X5_pace {E : fh_E} {M : fh_M} (C : fh_Cx E M cX5_pace 5 RX5 ((some FieldType.int)) rm_X5_pace) (Hr : fh_Rt E M) (k1 : Nat) (a2 : Int32) (σ3 : fh_S) : fh_Go E M 5 fh_vI 0 [(0, .ref (fh_ad E k1)), (1, .int a2)] [] σ3 (f_X5_pace k1 a2 σ3) := by
  have hok := fh_cok C
  refine go_ob ?_
  refine go_aload_n C 0 rfl rfl dX5_pace_0 ?_
  refine go_iload_n C 1 rfl rfl dX5_pace_1 ?_
  refine go_callVI C (st := []) [.int a2] (m_X5_plainPace E _ hok k1 a2 σ3) (fun _ h => fh_ob_ok h) rfl rfl ⟨q_845, q_847, qs_23, q_6, q_848⟩ pd_X5_plainPace rfl ⟨⟨Nat.le_of_ble_eq_true rfl, Nat.le_of_ble_eq_true rfl⟩, rfl, rfl⟩ (Nat.le_of_ble_eq_true rfl) dX5_pace_2 (fun r5 σ4 => ?_)
  refine go_istore_n C [(2, .int r5), (0, .ref (fh_ad E k1)), (1, .int a2)] rfl rfl (by decide) dX5_pace_5 ?_
  refine go_aload_n C 1 rfl rfl dX5_pace_6 ?_
  refine go_iload_n C 2 rfl rfl dX5_pace_7 ?_
  refine go_iconst C (5 : Int32) dX5_pace_8 rfl ?_
  refine go_callVI C (st := []) [.int a2, .int ((5 : Int32))] (m_X5_dialIs E _ hok k1 a2 ((5 : Int32)) σ4) (fun _ h => fh_ob_ok h) rfl rfl ⟨q_849, q_851, qs_24, q_6, q_852⟩ pd_X5_dialIs rfl ⟨⟨Nat.le_of_ble_eq_true rfl, Nat.le_of_ble_eq_true rfl⟩, rfl, rfl⟩ (Nat.le_of_ble_eq_true rfl) dX5_pace_9 (fun r7 σ6 => ?_)
  refine go_istore_n C [(3, .int r7), (2, .int r5), (0, .ref (fh_ad E k1)), (1, .int a2)] rfl rfl (by decide) dX5_pace_12 ?_
  refine go_iload_n C 1 rfl rfl dX5_pace_13 ?_
  refine go_jn (fun (j14 : Int32 → fh_S → Option (Int32 × fh_S)) => ∀ (x8 : Int32) (σ9 : fh_S), fh_Go E M 5 fh_vI 34 [] [.int x8] σ9 (j14 x8 σ9)) ?_ (fun j14 hj14 => ?_)
  · intro x8 σ9
    refine go_istore C [(4, .int x8)] rfl (by decide) dX5_pace_34 ?_
    refine go_bipush C (-99 : Int32) dX5_pace_36 rfl ?_
    refine go_bipush C (99 : Int32) dX5_pace_38 rfl ?_
    refine go_iload C 0 rfl dX5_pace_40 ?_
    refine go_callSI C (st := [.int ((-99 : Int32))]) [.int ((99 : Int32)), .int x8] (m_J9_min_7cf53 E _ hok ((99 : Int32)) x8 σ9) rfl ⟨q_861, q_190, q_7, q_191⟩ pd_J9_min_7cf53 rfl ⟨⟨Nat.le_of_ble_eq_true rfl, Nat.le_of_ble_eq_true rfl⟩, rfl, rfl⟩ (Nat.le_of_ble_eq_true rfl) dX5_pace_42 (fun r11 σ10 => ?_)
    refine go_callSI C (st := []) [.int ((-99 : Int32)), .int r11] (m_J9_max_7cf53 E _ hok ((-99 : Int32)) r11 σ10) rfl ⟨q_860, q_215, q_7, q_216⟩ pd_J9_max_7cf53 rfl ⟨⟨Nat.le_of_ble_eq_true rfl, Nat.le_of_ble_eq_true rfl⟩, rfl, rfl⟩ (Nat.le_of_ble_eq_true rfl) dX5_pace_45 (fun r13 σ12 => ?_)
    exact go_iret C Hr rfl dX5_pace_48
  refine go_if_le (tgt := 27) C dX5_pace_14 rfl (fun _ => ?_) (fun _ => ?_)
  · refine go_iconst C (0 : Int32) dX5_pace_27 rfl ?_
    refine go_iload_n C 1 rfl rfl dX5_pace_28 ?_
    refine go_iload_n C 0 rfl rfl dX5_pace_29 ?_
    refine go_iadd C dX5_pace_30 ?_
    refine go_callSI C (st := []) [.int ((0 : Int32)), .int (r5 + r7)] (m_J9_min_7cf53 E _ hok ((0 : Int32)) (r5 + r7) σ6) rfl ⟨q_861, q_190, q_7, q_191⟩ pd_J9_min_7cf53 rfl ⟨⟨Nat.le_of_ble_eq_true rfl, Nat.le_of_ble_eq_true rfl⟩, rfl, rfl⟩ (Nat.le_of_ble_eq_true rfl) dX5_pace_31 (fun r16 σ15 => ?_)
    refine go_lv [] (lv' := []) rfl ?_
    exact hj14 r16 σ15
  · refine go_iconst C (0 : Int32) dX5_pace_17 rfl ?_
    refine go_iload_n C 1 rfl rfl dX5_pace_18 ?_
    refine go_iload_n C 0 rfl rfl dX5_pace_19 ?_
    refine go_isub C dX5_pace_20 ?_
    refine go_callSI C (st := []) [.int ((0 : Int32)), .int (r5 - r7)] (m_J9_max_7cf53 E _ hok ((0 : Int32)) (r5 - r7) σ6) rfl ⟨q_860, q_215, q_7, q_216⟩ pd_J9_max_7cf53 rfl ⟨⟨Nat.le_of_ble_eq_true rfl, Nat.le_of_ble_eq_true rfl⟩, rfl, rfl⟩ (Nat.le_of_ble_eq_true rfl) dX5_pace_21 (fun r18 σ17 => ?_)
    refine go_goto C 34 dX5_pace_24 rfl ?_
    refine go_lv [] (lv' := []) rfl ?_
    exact hj14 r18 σ17
theorem m_X5_pace (E : fh_E) (l : Launch) (hok : fh_ok E) (k1 : Nat) (a2 : Int32) (σ3 : fh_S) : fh_Met E l yX5_pace cX5_pace 5 ((some FieldType.int)) rm_X5_pace fh_vI [.ref (fh_ad E k1), .int a2] σ3 (f_X5_pace k1 a2 σ3) := fh_met hok (by decide +kernel) (Nat.le_of_ble_eq_true rfl) (fun M _ C Hr => g_X5_pace C Hr k1 a2 σ3)
def f_X5_of_J18 (k1 : Nat) : fh_S → Option (Int32 × fh_S) := fun σ7 => fh_cb (f_X5_finding k1 ((-1000001 : Int32)) σ7) fun r9 σ8 => some (r9, σ8)
def f_X5_of (k1 : Nat) (a2 : Int32) (a3 : Int32) (σ4 : fh_S) : Option (Int32 × fh_S) := fh_ob 5 k1 (fh_cb (f_X5_isDial k1 a2 σ4) fun r6 σ5 => fh_jn (f_X5_of_J18 k1) (fun j10 => if r6 = 0 then j10 σ5 else fh_cb (f_X5_within a3 ((0 : Int32)) ((6 : Int32)) σ5) fun r12 σ11 => if r12 = 0 then j10 σ11 else if a3 = ((6 : Int32)) then fh_cb (f_X5_pace k1 a2 σ11) fun r16 σ15 => some (r16, σ15) else fh_cb (f_X5_dialIs k1 a2 a3 σ11) fun r14 σ13 => some (r14, σ13)))
abbrev rm_X5_of : Room := { frames := 5, cells := 0, slots := 0, locals := 111 }
theorem pd_X5_of : yX5_of.cls ≠ "java/lang/invoke/MethodHandle" ∧ yX5_of.cls ≠ "java/lang/invoke/VarHandle" ∧ (parseMethodDescriptor yX5_of.desc).map (fun d => d.parameters.length) = some 2 := by decide +kernel
theorem dX5_of_0 : decode cX5_of 0 = .ok (.aload_n 0, 1) := by decide +kernel
theorem dX5_of_1 : decode cX5_of 1 = .ok (.iload_n 1, 1) := by decide +kernel
theorem dX5_of_2 : decode cX5_of 2 = .ok (.invokevirtual 112, 3) := by decide +kernel
theorem dX5_of_5 : decode cX5_of 5 = .ok (.ifCond .eq 13, 3) := by decide +kernel
theorem dX5_of_8 : decode cX5_of 8 = .ok (.iload_n 2, 1) := by decide +kernel
theorem dX5_of_9 : decode cX5_of 9 = .ok (.iconst 0, 1) := by decide +kernel
theorem dX5_of_10 : decode cX5_of 10 = .ok (.bipush 6, 2) := by decide +kernel
theorem dX5_of_12 : decode cX5_of 12 = .ok (.invokestatic 73, 3) := by decide +kernel
theorem dX5_of_15 : decode cX5_of 15 = .ok (.ifCond .ne 10, 3) := by decide +kernel
theorem dX5_of_18 : decode cX5_of 18 = .ok (.aload_n 0, 1) := by decide +kernel
theorem dX5_of_19 : decode cX5_of 19 = .ok (.ldc 63, 2) := by decide +kernel
theorem dX5_of_21 : decode cX5_of 21 = .ok (.invokevirtual 69, 3) := by decide +kernel
theorem dX5_of_24 : decode cX5_of 24 = .ok (.ireturn, 1) := by decide +kernel
theorem dX5_of_25 : decode cX5_of 25 = .ok (.iload_n 2, 1) := by decide +kernel
theorem dX5_of_26 : decode cX5_of 26 = .ok (.bipush 6, 2) := by decide +kernel
theorem dX5_of_28 : decode cX5_of 28 = .ok (.if_icmp .ne 11, 3) := by decide +kernel
theorem dX5_of_31 : decode cX5_of 31 = .ok (.aload_n 0, 1) := by decide +kernel
theorem dX5_of_32 : decode cX5_of 32 = .ok (.iload_n 1, 1) := by decide +kernel
theorem dX5_of_33 : decode cX5_of 33 = .ok (.invokevirtual 115, 3) := by decide +kernel
theorem dX5_of_36 : decode cX5_of 36 = .ok (.goto 9, 3) := by decide +kernel
theorem dX5_of_39 : decode cX5_of 39 = .ok (.aload_n 0, 1) := by decide +kernel
theorem dX5_of_40 : decode cX5_of 40 = .ok (.iload_n 1, 1) := by decide +kernel
theorem dX5_of_41 : decode cX5_of 41 = .ok (.iload_n 2, 1) := by decide +kernel
theorem dX5_of_42 : decode cX5_of 42 = .ok (.invokevirtual 81, 3) := by decide +kernel
theorem dX5_of_45 : decode cX5_of 45 = .ok (.ireturn, 1) := by decide +kernel
set_option maxHeartbeats 4000000 in
set_option maxRecDepth 100000 in
theorem g_X5_of {E : fh_E} {M : fh_M} (C : fh_Cx E M cX5_of 3 RX5 ((some FieldType.int)) rm_X5_of) (Hr : fh_Rt E M) (k1 : Nat) (a2 : Int32) (a3 : Int32) (σ4 : fh_S) : fh_Go E M 3 fh_vI 0 [(0, .ref (fh_ad E k1)), (1, .int a2), (2, .int a3)] [] σ4 (f_X5_of k1 a2 a3 σ4) := by
  have hok := fh_cok C
  refine go_ob ?_
  refine go_aload_n C 0 rfl rfl dX5_of_0 ?_
  refine go_iload_n C 1 rfl rfl dX5_of_1 ?_
  refine go_callVI C (st := []) [.int a2] (m_X5_isDial E _ hok k1 a2 σ4) (fun _ h => fh_ob_ok h) rfl rfl ⟨q_837, q_839, qs_21, q_6, q_840⟩ pd_X5_isDial rfl ⟨⟨Nat.le_of_ble_eq_true rfl, Nat.le_of_ble_eq_true rfl⟩, rfl, rfl⟩ (Nat.le_of_ble_eq_true rfl) dX5_of_2 (fun r6 σ5 => ?_)
  refine go_jn (fun (j10 : fh_S → Option (Int32 × fh_S)) => ∀ (σ7 : fh_S), fh_Go E M 3 fh_vI 18 [(0, .ref (fh_ad E k1))] [] σ7 (j10 σ7)) ?_ (fun j10 hj10 => ?_)
  · intro σ7
    refine go_aload_n C 0 rfl rfl dX5_of_18 ?_
    refine go_ldc C q_820 dX5_of_19 ?_
    refine go_callVI C (st := []) [.int ((-1000001 : Int32))] (m_X5_finding E _ hok k1 ((-1000001 : Int32)) σ7) (fun _ h => fh_ob_ok h) rfl rfl ⟨q_821, q_823, qs_19, q_6, q_824⟩ pd_X5_finding rfl ⟨⟨Nat.le_of_ble_eq_true rfl, Nat.le_of_ble_eq_true rfl⟩, rfl, rfl⟩ (Nat.le_of_ble_eq_true rfl) dX5_of_21 (fun r9 σ8 => ?_)
    exact go_iret C Hr rfl dX5_of_24
  refine go_if_eq (tgt := 18) C dX5_of_5 rfl (fun _ => ?_) (fun _ => ?_)
  · refine go_lv [0] (lv' := [(0, .ref (fh_ad E k1))]) rfl ?_
    exact hj10 σ5
  · refine go_iload_n C 2 rfl rfl dX5_of_8 ?_
    refine go_iconst C (0 : Int32) dX5_of_9 rfl ?_
    refine go_bipush C (6 : Int32) dX5_of_10 rfl ?_
    refine go_callSI C (st := []) [.int a3, .int ((0 : Int32)), .int ((6 : Int32))] (m_X5_within E _ hok a3 ((0 : Int32)) ((6 : Int32)) σ5) rfl ⟨q_817, q_818, q_6, q_819⟩ pd_X5_within rfl ⟨⟨Nat.le_of_ble_eq_true rfl, Nat.le_of_ble_eq_true rfl⟩, rfl, rfl⟩ (Nat.le_of_ble_eq_true rfl) dX5_of_12 (fun r12 σ11 => ?_)
    refine go_if_ne (tgt := 25) C dX5_of_15 rfl (fun _ => ?_) (fun _ => ?_)
    · refine go_iload_n C 2 rfl rfl dX5_of_25 ?_
      refine go_bipush C (6 : Int32) dX5_of_26 rfl ?_
      refine go_icmp_ne (tgt := 39) C dX5_of_28 rfl (fun _ => ?_) (fun _ => ?_)
      · refine go_aload_n C 0 rfl rfl dX5_of_39 ?_
        refine go_iload_n C 1 rfl rfl dX5_of_40 ?_
        refine go_iload_n C 2 rfl rfl dX5_of_41 ?_
        refine go_callVI C (st := []) [.int a2, .int a3] (m_X5_dialIs E _ hok k1 a2 a3 σ11) (fun _ h => fh_ob_ok h) rfl rfl ⟨q_849, q_851, qs_24, q_6, q_852⟩ pd_X5_dialIs rfl ⟨⟨Nat.le_of_ble_eq_true rfl, Nat.le_of_ble_eq_true rfl⟩, rfl, rfl⟩ (Nat.le_of_ble_eq_true rfl) dX5_of_42 (fun r14 σ13 => ?_)
        exact go_iret C Hr rfl dX5_of_45
      · refine go_aload_n C 0 rfl rfl dX5_of_31 ?_
        refine go_iload_n C 1 rfl rfl dX5_of_32 ?_
        refine go_callVI C (st := []) [.int a2] (m_X5_pace E _ hok k1 a2 σ11) (fun _ h => fh_ob_ok h) rfl rfl ⟨q_841, q_843, qs_22, q_6, q_844⟩ pd_X5_pace rfl ⟨⟨Nat.le_of_ble_eq_true rfl, Nat.le_of_ble_eq_true rfl⟩, rfl, rfl⟩ (Nat.le_of_ble_eq_true rfl) dX5_of_33 (fun r16 σ15 => ?_)
        refine go_goto C 45 dX5_of_36 rfl ?_
        exact go_iret C Hr rfl dX5_of_45
    · refine go_lv [0] (lv' := [(0, .ref (fh_ad E k1))]) rfl ?_
      exact hj10 σ11
theorem m_X5_of (E : fh_E) (l : Launch) (hok : fh_ok E) (k1 : Nat) (a2 : Int32) (a3 : Int32) (σ4 : fh_S) : fh_Met E l yX5_of cX5_of 3 ((some FieldType.int)) rm_X5_of fh_vI [.ref (fh_ad E k1), .int a2, .int a3] σ4 (f_X5_of k1 a2 a3 σ4) := fh_met hok (by decide +kernel) (Nat.le_of_ble_eq_true rfl) (fun M _ C Hr => g_X5_of C Hr k1 a2 a3 σ4)
def f_X5_mayBe (k1 : Nat) (a2 : Int32) (a3 : Int32) (σ4 : fh_S) : Option (Int32 × fh_S) := fh_ob 5 k1 (if a2 = (0 : Int32) then fh_cb (f_X5_isKind a3 σ4) fun r6 σ5 => fh_rz r6 σ5 else if a2 = (1 : Int32) then fh_cb (f_X5_isHour a3 σ4) fun r9 σ8 => fh_rz r9 σ8 else if a2 = (2 : Int32) then fh_cb (f_X5_isDial k1 a3 σ4) fun r12 σ11 => fh_rz r12 σ11 else if a2 = (3 : Int32) then fh_cb (f_X5_within a3 ((-99 : Int32)) ((99 : Int32)) σ4) fun r15 σ14 => fh_rz r15 σ14 else if a2 = (4 : Int32) then fh_rz ((0 : Int32)) σ4 else if a2 = (5 : Int32) then fh_cb (f_X5_within a3 ((0 : Int32)) ((9 : Int32)) σ4) fun r19 σ18 => fh_rz r19 σ18 else fh_rz ((0 : Int32)) σ4)
abbrev rm_X5_mayBe : Room := { frames := 2, cells := 0, slots := 0, locals := 43 }
theorem pd_X5_mayBe : yX5_mayBe.cls ≠ "java/lang/invoke/MethodHandle" ∧ yX5_mayBe.cls ≠ "java/lang/invoke/VarHandle" ∧ (parseMethodDescriptor yX5_mayBe.desc).map (fun d => d.parameters.length) = some 2 := by decide +kernel
theorem dX5_mayBe_0 : decode cX5_mayBe 0 = .ok (.iload_n 1, 1) := by decide +kernel
theorem dX5_mayBe_1 : decode cX5_mayBe 1 = .ok (.tableswitch 72 0 5 #[39, 44, 49, 55, 72, 64], 39) := by decide +kernel
theorem dX5_mayBe_40 : decode cX5_mayBe 40 = .ok (.iload_n 2, 1) := by decide +kernel
theorem dX5_mayBe_41 : decode cX5_mayBe 41 = .ok (.invokestatic 84, 3) := by decide +kernel
theorem dX5_mayBe_44 : decode cX5_mayBe 44 = .ok (.ireturn, 1) := by decide +kernel
theorem dX5_mayBe_45 : decode cX5_mayBe 45 = .ok (.iload_n 2, 1) := by decide +kernel
theorem dX5_mayBe_46 : decode cX5_mayBe 46 = .ok (.invokestatic 118, 3) := by decide +kernel
theorem dX5_mayBe_49 : decode cX5_mayBe 49 = .ok (.ireturn, 1) := by decide +kernel
theorem dX5_mayBe_50 : decode cX5_mayBe 50 = .ok (.aload_n 0, 1) := by decide +kernel
theorem dX5_mayBe_51 : decode cX5_mayBe 51 = .ok (.iload_n 2, 1) := by decide +kernel
theorem dX5_mayBe_52 : decode cX5_mayBe 52 = .ok (.invokevirtual 112, 3) := by decide +kernel
theorem dX5_mayBe_55 : decode cX5_mayBe 55 = .ok (.ireturn, 1) := by decide +kernel
theorem dX5_mayBe_56 : decode cX5_mayBe 56 = .ok (.iload_n 2, 1) := by decide +kernel
theorem dX5_mayBe_57 : decode cX5_mayBe 57 = .ok (.bipush (-99), 2) := by decide +kernel
theorem dX5_mayBe_59 : decode cX5_mayBe 59 = .ok (.bipush 99, 2) := by decide +kernel
theorem dX5_mayBe_61 : decode cX5_mayBe 61 = .ok (.invokestatic 73, 3) := by decide +kernel
theorem dX5_mayBe_64 : decode cX5_mayBe 64 = .ok (.ireturn, 1) := by decide +kernel
theorem dX5_mayBe_65 : decode cX5_mayBe 65 = .ok (.iload_n 2, 1) := by decide +kernel
theorem dX5_mayBe_66 : decode cX5_mayBe 66 = .ok (.iconst 0, 1) := by decide +kernel
theorem dX5_mayBe_67 : decode cX5_mayBe 67 = .ok (.bipush 9, 2) := by decide +kernel
theorem dX5_mayBe_69 : decode cX5_mayBe 69 = .ok (.invokestatic 73, 3) := by decide +kernel
theorem dX5_mayBe_72 : decode cX5_mayBe 72 = .ok (.ireturn, 1) := by decide +kernel
theorem dX5_mayBe_73 : decode cX5_mayBe 73 = .ok (.iconst 0, 1) := by decide +kernel
theorem dX5_mayBe_74 : decode cX5_mayBe 74 = .ok (.ireturn, 1) := by decide +kernel
set_option maxHeartbeats 4000000 in
set_option maxRecDepth 100000 in
theorem g_X5_mayBe {E : fh_E} {M : fh_M} (C : fh_Cx E M cX5_mayBe 3 RX5 ((some FieldType.boolean)) rm_X5_mayBe) (Hr : fh_Rt E M) (k1 : Nat) (a2 : Int32) (a3 : Int32) (σ4 : fh_S) : fh_Go E M 3 fh_vI 0 [(0, .ref (fh_ad E k1)), (1, .int a2), (2, .int a3)] [] σ4 (f_X5_mayBe k1 a2 a3 σ4) := by
  have hok := fh_cok C
  refine go_ob ?_
  refine go_iload_n C 1 rfl rfl dX5_mayBe_0 ?_
  refine go_sw C (0 : Int32) 40 dX5_mayBe_1 (by decide) (by decide) rfl rfl ?_ (fun hn7 => ?_)
  · refine go_iload_n C 2 rfl rfl dX5_mayBe_40 ?_
    refine go_callSI C (st := []) [.int a3] (m_X5_isKind E _ hok a3 σ4) rfl ⟨q_814, q_815, q_6, q_816⟩ pd_X5_isKind rfl ⟨⟨Nat.le_of_ble_eq_true rfl, Nat.le_of_ble_eq_true rfl⟩, rfl, rfl⟩ (Nat.le_of_ble_eq_true rfl) dX5_mayBe_41 (fun r6 σ5 => ?_)
    exact go_zret C Hr dX5_mayBe_44
  refine go_sw C (1 : Int32) 45 dX5_mayBe_1 (by decide) (by decide) rfl rfl ?_ (fun hn10 => ?_)
  · refine go_iload_n C 2 rfl rfl dX5_mayBe_45 ?_
    refine go_callSI C (st := []) [.int a3] (m_X5_isHour E _ hok a3 σ4) rfl ⟨q_870, q_871, q_6, q_872⟩ pd_X5_isHour rfl ⟨⟨Nat.le_of_ble_eq_true rfl, Nat.le_of_ble_eq_true rfl⟩, rfl, rfl⟩ (Nat.le_of_ble_eq_true rfl) dX5_mayBe_46 (fun r9 σ8 => ?_)
    exact go_zret C Hr dX5_mayBe_49
  refine go_sw C (2 : Int32) 50 dX5_mayBe_1 (by decide) (by decide) rfl rfl ?_ (fun hn13 => ?_)
  · refine go_aload_n C 0 rfl rfl dX5_mayBe_50 ?_
    refine go_iload_n C 2 rfl rfl dX5_mayBe_51 ?_
    refine go_callVI C (st := []) [.int a3] (m_X5_isDial E _ hok k1 a3 σ4) (fun _ h => fh_ob_ok h) rfl rfl ⟨q_837, q_839, qs_21, q_6, q_840⟩ pd_X5_isDial rfl ⟨⟨Nat.le_of_ble_eq_true rfl, Nat.le_of_ble_eq_true rfl⟩, rfl, rfl⟩ (Nat.le_of_ble_eq_true rfl) dX5_mayBe_52 (fun r12 σ11 => ?_)
    exact go_zret C Hr dX5_mayBe_55
  refine go_sw C (3 : Int32) 56 dX5_mayBe_1 (by decide) (by decide) rfl rfl ?_ (fun hn16 => ?_)
  · refine go_iload_n C 2 rfl rfl dX5_mayBe_56 ?_
    refine go_bipush C (-99 : Int32) dX5_mayBe_57 rfl ?_
    refine go_bipush C (99 : Int32) dX5_mayBe_59 rfl ?_
    refine go_callSI C (st := []) [.int a3, .int ((-99 : Int32)), .int ((99 : Int32))] (m_X5_within E _ hok a3 ((-99 : Int32)) ((99 : Int32)) σ4) rfl ⟨q_817, q_818, q_6, q_819⟩ pd_X5_within rfl ⟨⟨Nat.le_of_ble_eq_true rfl, Nat.le_of_ble_eq_true rfl⟩, rfl, rfl⟩ (Nat.le_of_ble_eq_true rfl) dX5_mayBe_61 (fun r15 σ14 => ?_)
    exact go_zret C Hr dX5_mayBe_64
  refine go_sw C (4 : Int32) 73 dX5_mayBe_1 (by decide) (by decide) rfl rfl ?_ (fun hn17 => ?_)
  · refine go_iconst C (0 : Int32) dX5_mayBe_73 rfl ?_
    exact go_zret C Hr dX5_mayBe_74
  refine go_sw C (5 : Int32) 65 dX5_mayBe_1 (by decide) (by decide) rfl rfl ?_ (fun hn20 => ?_)
  · refine go_iload_n C 2 rfl rfl dX5_mayBe_65 ?_
    refine go_iconst C (0 : Int32) dX5_mayBe_66 rfl ?_
    refine go_bipush C (9 : Int32) dX5_mayBe_67 rfl ?_
    refine go_callSI C (st := []) [.int a3, .int ((0 : Int32)), .int ((9 : Int32))] (m_X5_within E _ hok a3 ((0 : Int32)) ((9 : Int32)) σ4) rfl ⟨q_817, q_818, q_6, q_819⟩ pd_X5_within rfl ⟨⟨Nat.le_of_ble_eq_true rfl, Nat.le_of_ble_eq_true rfl⟩, rfl, rfl⟩ (Nat.le_of_ble_eq_true rfl) dX5_mayBe_69 (fun r19 σ18 => ?_)
    exact go_zret C Hr dX5_mayBe_72
  refine go_swd C 73 dX5_mayBe_1 (by have hh0 := fh_ne (z := 0) hn7 (by decide); have hh1 := fh_ne (z := 1) hn10 (by decide); have hh2 := fh_ne (z := 2) hn13 (by decide); have hh3 := fh_ne (z := 3) hn16 (by decide); have hh4 := fh_ne (z := 4) hn17 (by decide); have hh5 := fh_ne (z := 5) hn20 (by decide); omega) rfl ?_
  refine go_iconst C (0 : Int32) dX5_mayBe_73 rfl ?_
  exact go_zret C Hr dX5_mayBe_74
theorem m_X5_mayBe (E : fh_E) (l : Launch) (hok : fh_ok E) (k1 : Nat) (a2 : Int32) (a3 : Int32) (σ4 : fh_S) : fh_Met E l yX5_mayBe cX5_mayBe 3 ((some FieldType.boolean)) rm_X5_mayBe fh_vI [.ref (fh_ad E k1), .int a2, .int a3] σ4 (f_X5_mayBe k1 a2 a3 σ4) := fh_met hok (by decide +kernel) (Nat.le_of_ble_eq_true rfl) (fun M _ C Hr => g_X5_mayBe C Hr k1 a2 a3 σ4)
def f_X5_change_J30 (k1 : Nat) : fh_S → Option (Int32 × fh_S) := fun σ8 => fh_cb (f_X5_finding k1 ((-1000001 : Int32)) σ8) fun r10 σ9 => some (r10, σ9)
def f_X5_change (k1 : Nat) (a2 : Int32) (a3 : Int32) (a4 : Int32) (σ5 : fh_S) : Option (Int32 × fh_S) := fh_ob 5 k1 (fh_cb (f_X5_isDial k1 a2 σ5) fun r7 σ6 => fh_jn (f_X5_change_J30 k1) (fun j11 => if r7 = 0 then j11 σ6 else fh_cb (f_X5_mayBe k1 a3 a4 σ6) fun r13 σ12 => if r13 = 0 then j11 σ12 else fh_cb (f_X5_at a2 a3 σ12) fun r15 σ14 => fh_cb (f_X5_become k1 r15 a4 σ14) fun r17 σ16 => some (r17, σ16)))
abbrev rm_X5_change : Room := { frames := 3, cells := 0, slots := 0, locals := 65 }
theorem pd_X5_change : yX5_change.cls ≠ "java/lang/invoke/MethodHandle" ∧ yX5_change.cls ≠ "java/lang/invoke/VarHandle" ∧ (parseMethodDescriptor yX5_change.desc).map (fun d => d.parameters.length) = some 3 := by decide +kernel
theorem dX5_change_0 : decode cX5_change 0 = .ok (.aload_n 0, 1) := by decide +kernel
theorem dX5_change_1 : decode cX5_change 1 = .ok (.iload_n 1, 1) := by decide +kernel
theorem dX5_change_2 : decode cX5_change 2 = .ok (.invokevirtual 112, 3) := by decide +kernel
theorem dX5_change_5 : decode cX5_change 5 = .ok (.ifCond .eq 25, 3) := by decide +kernel
theorem dX5_change_8 : decode cX5_change 8 = .ok (.aload_n 0, 1) := by decide +kernel
theorem dX5_change_9 : decode cX5_change 9 = .ok (.iload_n 2, 1) := by decide +kernel
theorem dX5_change_10 : decode cX5_change 10 = .ok (.iload_n 3, 1) := by decide +kernel
theorem dX5_change_11 : decode cX5_change 11 = .ok (.invokevirtual 121, 3) := by decide +kernel
theorem dX5_change_14 : decode cX5_change 14 = .ok (.ifCond .eq 16, 3) := by decide +kernel
theorem dX5_change_17 : decode cX5_change 17 = .ok (.aload_n 0, 1) := by decide +kernel
theorem dX5_change_18 : decode cX5_change 18 = .ok (.iload_n 1, 1) := by decide +kernel
theorem dX5_change_19 : decode cX5_change 19 = .ok (.iload_n 2, 1) := by decide +kernel
theorem dX5_change_20 : decode cX5_change 20 = .ok (.invokestatic 77, 3) := by decide +kernel
theorem dX5_change_23 : decode cX5_change 23 = .ok (.iload_n 3, 1) := by decide +kernel
theorem dX5_change_24 : decode cX5_change 24 = .ok (.invokevirtual 125, 3) := by decide +kernel
theorem dX5_change_27 : decode cX5_change 27 = .ok (.goto 9, 3) := by decide +kernel
theorem dX5_change_30 : decode cX5_change 30 = .ok (.aload_n 0, 1) := by decide +kernel
theorem dX5_change_31 : decode cX5_change 31 = .ok (.ldc 63, 2) := by decide +kernel
theorem dX5_change_33 : decode cX5_change 33 = .ok (.invokevirtual 69, 3) := by decide +kernel
theorem dX5_change_36 : decode cX5_change 36 = .ok (.ireturn, 1) := by decide +kernel
set_option maxHeartbeats 4000000 in
set_option maxRecDepth 100000 in
theorem g_X5_change {E : fh_E} {M : fh_M} (C : fh_Cx E M cX5_change 4 RX5 ((some FieldType.int)) rm_X5_change) (Hr : fh_Rt E M) (k1 : Nat) (a2 : Int32) (a3 : Int32) (a4 : Int32) (σ5 : fh_S) : fh_Go E M 4 fh_vI 0 [(0, .ref (fh_ad E k1)), (1, .int a2), (2, .int a3), (3, .int a4)] [] σ5 (f_X5_change k1 a2 a3 a4 σ5) := by
  have hok := fh_cok C
  refine go_ob ?_
  refine go_aload_n C 0 rfl rfl dX5_change_0 ?_
  refine go_iload_n C 1 rfl rfl dX5_change_1 ?_
  refine go_callVI C (st := []) [.int a2] (m_X5_isDial E _ hok k1 a2 σ5) (fun _ h => fh_ob_ok h) rfl rfl ⟨q_837, q_839, qs_21, q_6, q_840⟩ pd_X5_isDial rfl ⟨⟨Nat.le_of_ble_eq_true rfl, Nat.le_of_ble_eq_true rfl⟩, rfl, rfl⟩ (Nat.le_of_ble_eq_true rfl) dX5_change_2 (fun r7 σ6 => ?_)
  refine go_jn (fun (j11 : fh_S → Option (Int32 × fh_S)) => ∀ (σ8 : fh_S), fh_Go E M 4 fh_vI 30 [(0, .ref (fh_ad E k1))] [] σ8 (j11 σ8)) ?_ (fun j11 hj11 => ?_)
  · intro σ8
    refine go_aload_n C 0 rfl rfl dX5_change_30 ?_
    refine go_ldc C q_820 dX5_change_31 ?_
    refine go_callVI C (st := []) [.int ((-1000001 : Int32))] (m_X5_finding E _ hok k1 ((-1000001 : Int32)) σ8) (fun _ h => fh_ob_ok h) rfl rfl ⟨q_821, q_823, qs_19, q_6, q_824⟩ pd_X5_finding rfl ⟨⟨Nat.le_of_ble_eq_true rfl, Nat.le_of_ble_eq_true rfl⟩, rfl, rfl⟩ (Nat.le_of_ble_eq_true rfl) dX5_change_33 (fun r10 σ9 => ?_)
    exact go_iret C Hr rfl dX5_change_36
  refine go_if_eq (tgt := 30) C dX5_change_5 rfl (fun _ => ?_) (fun _ => ?_)
  · refine go_lv [0] (lv' := [(0, .ref (fh_ad E k1))]) rfl ?_
    exact hj11 σ6
  · refine go_aload_n C 0 rfl rfl dX5_change_8 ?_
    refine go_iload_n C 2 rfl rfl dX5_change_9 ?_
    refine go_iload_n C 3 rfl rfl dX5_change_10 ?_
    refine go_callVI C (st := []) [.int a3, .int a4] (m_X5_mayBe E _ hok k1 a3 a4 σ6) (fun _ h => fh_ob_ok h) rfl rfl ⟨q_866, q_868, qs_26, q_6, q_869⟩ pd_X5_mayBe rfl ⟨⟨Nat.le_of_ble_eq_true rfl, Nat.le_of_ble_eq_true rfl⟩, rfl, rfl⟩ (Nat.le_of_ble_eq_true rfl) dX5_change_11 (fun r13 σ12 => ?_)
    refine go_if_eq (tgt := 30) C dX5_change_14 rfl (fun _ => ?_) (fun _ => ?_)
    · refine go_lv [0] (lv' := [(0, .ref (fh_ad E k1))]) rfl ?_
      exact hj11 σ12
    · refine go_aload_n C 0 rfl rfl dX5_change_17 ?_
      refine go_iload_n C 1 rfl rfl dX5_change_18 ?_
      refine go_iload_n C 2 rfl rfl dX5_change_19 ?_
      refine go_callSI C (st := [.ref (fh_ad E k1)]) [.int a2, .int a3] (m_X5_at E _ hok a2 a3 σ12) rfl ⟨q_830, q_831, q_6, q_832⟩ pd_X5_at rfl ⟨⟨Nat.le_of_ble_eq_true rfl, Nat.le_of_ble_eq_true rfl⟩, rfl, rfl⟩ (Nat.le_of_ble_eq_true rfl) dX5_change_20 (fun r15 σ14 => ?_)
      refine go_iload_n C 3 rfl rfl dX5_change_23 ?_
      refine go_callVI C (st := []) [.int r15, .int a4] (m_X5_become E _ hok k1 r15 a4 σ14) (fun _ h => fh_ob_ok h) rfl rfl ⟨q_873, q_875, qs_27, q_6, q_876⟩ pd_X5_become rfl ⟨⟨Nat.le_of_ble_eq_true rfl, Nat.le_of_ble_eq_true rfl⟩, rfl, rfl⟩ (Nat.le_of_ble_eq_true rfl) dX5_change_24 (fun r17 σ16 => ?_)
      refine go_goto C 36 dX5_change_27 rfl ?_
      exact go_iret C Hr rfl dX5_change_36
theorem m_X5_change (E : fh_E) (l : Launch) (hok : fh_ok E) (k1 : Nat) (a2 : Int32) (a3 : Int32) (a4 : Int32) (σ5 : fh_S) : fh_Met E l yX5_change cX5_change 4 ((some FieldType.int)) rm_X5_change fh_vI [.ref (fh_ad E k1), .int a2, .int a3, .int a4] σ5 (f_X5_change k1 a2 a3 a4 σ5) := fh_met hok (by decide +kernel) (Nat.le_of_ble_eq_true rfl) (fun M _ C Hr => g_X5_change C Hr k1 a2 a3 a4 σ5)
def f_X5_round (a1 : Int32) (σ2 : fh_S) : Option (Int32 × fh_S) := if 0 ≤ (a1 - a1 / ((720 : Int32)) * ((720 : Int32))) then some (a1 - a1 / ((720 : Int32)) * ((720 : Int32)), σ2) else some ((a1 - a1 / ((720 : Int32)) * ((720 : Int32))) + ((720 : Int32)), σ2)
abbrev rm_X5_round : Room := { frames := 0, cells := 0, slots := 0, locals := 0 }
theorem pd_X5_round : yX5_round.cls ≠ "java/lang/invoke/MethodHandle" ∧ yX5_round.cls ≠ "java/lang/invoke/VarHandle" ∧ (parseMethodDescriptor yX5_round.desc).map (fun d => d.parameters.length) = some 1 := by decide +kernel
theorem dX5_round_0 : decode cX5_round 0 = .ok (.iload_n 0, 1) := by decide +kernel
theorem dX5_round_1 : decode cX5_round 1 = .ok (.sipush 720, 3) := by decide +kernel
theorem dX5_round_4 : decode cX5_round 4 = .ok (.irem, 1) := by decide +kernel
theorem dX5_round_5 : decode cX5_round 5 = .ok (.istore_n 1, 1) := by decide +kernel
theorem dX5_round_6 : decode cX5_round 6 = .ok (.iload_n 1, 1) := by decide +kernel
theorem dX5_round_7 : decode cX5_round 7 = .ok (.ifCond .ge 11, 3) := by decide +kernel
theorem dX5_round_10 : decode cX5_round 10 = .ok (.iload_n 1, 1) := by decide +kernel
theorem dX5_round_11 : decode cX5_round 11 = .ok (.sipush 720, 3) := by decide +kernel
theorem dX5_round_14 : decode cX5_round 14 = .ok (.iadd, 1) := by decide +kernel
theorem dX5_round_15 : decode cX5_round 15 = .ok (.goto 4, 3) := by decide +kernel
theorem dX5_round_18 : decode cX5_round 18 = .ok (.iload_n 1, 1) := by decide +kernel
theorem dX5_round_19 : decode cX5_round 19 = .ok (.ireturn, 1) := by decide +kernel
set_option maxHeartbeats 4000000 in
set_option maxRecDepth 100000 in
theorem g_X5_round {E : fh_E} {M : fh_M} (C : fh_Cx E M cX5_round 2 RX5 ((some FieldType.int)) rm_X5_round) (Hr : fh_Rt E M) (a1 : Int32) (σ2 : fh_S) : fh_Go E M 2 fh_vI 0 [(0, .int a1)] [] σ2 (f_X5_round a1 σ2) := by
  have hok := fh_cok C
  refine go_iload_n C 0 rfl rfl dX5_round_0 ?_
  refine go_sipush C (720 : Int32) dX5_round_1 rfl ?_
  refine go_irem C dX5_round_4 (by decide) ?_
  refine go_istore_n C [(1, .int (a1 - a1 / ((720 : Int32)) * ((720 : Int32)))), (0, .int a1)] rfl rfl (by decide) dX5_round_5 ?_
  refine go_iload_n C 0 rfl rfl dX5_round_6 ?_
  refine go_if_ge (tgt := 18) C dX5_round_7 rfl (fun _ => ?_) (fun _ => ?_)
  · refine go_iload_n C 0 rfl rfl dX5_round_18 ?_
    exact go_iret C Hr rfl dX5_round_19
  · refine go_iload_n C 0 rfl rfl dX5_round_10 ?_
    refine go_sipush C (720 : Int32) dX5_round_11 rfl ?_
    refine go_iadd C dX5_round_14 ?_
    refine go_goto C 19 dX5_round_15 rfl ?_
    exact go_iret C Hr rfl dX5_round_19
theorem m_X5_round (E : fh_E) (l : Launch) (hok : fh_ok E) (a1 : Int32) (σ2 : fh_S) : fh_Met E l yX5_round cX5_round 2 ((some FieldType.int)) rm_X5_round fh_vI [.int a1] σ2 (f_X5_round a1 σ2) := fh_met hok (by decide +kernel) (Nat.le_of_ble_eq_true rfl) (fun M _ C Hr => g_X5_round C Hr a1 σ2)
def f_X5_jog_J21 (k1 : Nat) : fh_S → Option (Int32 × fh_S) := fun σ7 => fh_cb (f_X5_finding k1 ((-1000001 : Int32)) σ7) fun r9 σ8 => some (r9, σ8)
def f_X5_jog (k1 : Nat) (a2 : Int32) (a3 : Int32) (σ4 : fh_S) : Option (Int32 × fh_S) := fh_ob 5 k1 (fh_cb (f_X5_isDial k1 a2 σ4) fun r6 σ5 => fh_jn (f_X5_jog_J21 k1) (fun j10 => if r6 = 0 then j10 σ5 else fh_cb (f_X5_within a3 ((-719 : Int32)) ((719 : Int32)) σ5) fun r12 σ11 => if r12 = 0 then j10 σ11 else (fh_gr 5 k1 0).bind fun k13 => fh_cb (f_X5_at a2 ((1 : Int32)) σ11) fun r15 σ14 => fh_cb (f_X5_dialIs k1 a2 ((1 : Int32)) σ14) fun r17 σ16 => fh_cb (f_X5_round (r17 + a3) σ16) fun r19 σ18 => (fh_st σ18 k13 r15 r19).bind fun σ20 => fh_cb (f_X5_dialIs k1 a2 ((1 : Int32)) σ20) fun r22 σ21 => some (r22, σ21)))
abbrev rm_X5_jog : Room := { frames := 2, cells := 0, slots := 0, locals := 43 }
theorem pd_X5_jog : yX5_jog.cls ≠ "java/lang/invoke/MethodHandle" ∧ yX5_jog.cls ≠ "java/lang/invoke/VarHandle" ∧ (parseMethodDescriptor yX5_jog.desc).map (fun d => d.parameters.length) = some 2 := by decide +kernel
theorem dX5_jog_0 : decode cX5_jog 0 = .ok (.aload_n 0, 1) := by decide +kernel
theorem dX5_jog_1 : decode cX5_jog 1 = .ok (.iload_n 1, 1) := by decide +kernel
theorem dX5_jog_2 : decode cX5_jog 2 = .ok (.invokevirtual 112, 3) := by decide +kernel
theorem dX5_jog_5 : decode cX5_jog 5 = .ok (.ifCond .eq 16, 3) := by decide +kernel
theorem dX5_jog_8 : decode cX5_jog 8 = .ok (.iload_n 2, 1) := by decide +kernel
theorem dX5_jog_9 : decode cX5_jog 9 = .ok (.sipush (-719), 3) := by decide +kernel
theorem dX5_jog_12 : decode cX5_jog 12 = .ok (.sipush 719, 3) := by decide +kernel
theorem dX5_jog_15 : decode cX5_jog 15 = .ok (.invokestatic 73, 3) := by decide +kernel
theorem dX5_jog_18 : decode cX5_jog 18 = .ok (.ifCond .ne 10, 3) := by decide +kernel
theorem dX5_jog_21 : decode cX5_jog 21 = .ok (.aload_n 0, 1) := by decide +kernel
theorem dX5_jog_22 : decode cX5_jog 22 = .ok (.ldc 63, 2) := by decide +kernel
theorem dX5_jog_24 : decode cX5_jog 24 = .ok (.invokevirtual 69, 3) := by decide +kernel
theorem dX5_jog_27 : decode cX5_jog 27 = .ok (.ireturn, 1) := by decide +kernel
theorem dX5_jog_28 : decode cX5_jog 28 = .ok (.aload_n 0, 1) := by decide +kernel
theorem dX5_jog_29 : decode cX5_jog 29 = .ok (.getfield 9, 3) := by decide +kernel
theorem dX5_jog_32 : decode cX5_jog 32 = .ok (.iload_n 1, 1) := by decide +kernel
theorem dX5_jog_33 : decode cX5_jog 33 = .ok (.iconst 1, 1) := by decide +kernel
theorem dX5_jog_34 : decode cX5_jog 34 = .ok (.invokestatic 77, 3) := by decide +kernel
theorem dX5_jog_37 : decode cX5_jog 37 = .ok (.aload_n 0, 1) := by decide +kernel
theorem dX5_jog_38 : decode cX5_jog 38 = .ok (.iload_n 1, 1) := by decide +kernel
theorem dX5_jog_39 : decode cX5_jog 39 = .ok (.iconst 1, 1) := by decide +kernel
theorem dX5_jog_40 : decode cX5_jog 40 = .ok (.invokevirtual 81, 3) := by decide +kernel
theorem dX5_jog_43 : decode cX5_jog 43 = .ok (.iload_n 2, 1) := by decide +kernel
theorem dX5_jog_44 : decode cX5_jog 44 = .ok (.iadd, 1) := by decide +kernel
theorem dX5_jog_45 : decode cX5_jog 45 = .ok (.invokestatic 128, 3) := by decide +kernel
theorem dX5_jog_48 : decode cX5_jog 48 = .ok (.iastore, 1) := by decide +kernel
theorem dX5_jog_49 : decode cX5_jog 49 = .ok (.aload_n 0, 1) := by decide +kernel
theorem dX5_jog_50 : decode cX5_jog 50 = .ok (.iload_n 1, 1) := by decide +kernel
theorem dX5_jog_51 : decode cX5_jog 51 = .ok (.iconst 1, 1) := by decide +kernel
theorem dX5_jog_52 : decode cX5_jog 52 = .ok (.invokevirtual 81, 3) := by decide +kernel
theorem dX5_jog_55 : decode cX5_jog 55 = .ok (.ireturn, 1) := by decide +kernel
set_option maxHeartbeats 4000000 in
set_option maxRecDepth 100000 in
theorem g_X5_jog {E : fh_E} {M : fh_M} (C : fh_Cx E M cX5_jog 3 RX5 ((some FieldType.int)) rm_X5_jog) (Hr : fh_Rt E M) (k1 : Nat) (a2 : Int32) (a3 : Int32) (σ4 : fh_S) : fh_Go E M 3 fh_vI 0 [(0, .ref (fh_ad E k1)), (1, .int a2), (2, .int a3)] [] σ4 (f_X5_jog k1 a2 a3 σ4) := by
  have hok := fh_cok C
  refine go_ob ?_
  refine go_aload_n C 0 rfl rfl dX5_jog_0 ?_
  refine go_iload_n C 1 rfl rfl dX5_jog_1 ?_
  refine go_callVI C (st := []) [.int a2] (m_X5_isDial E _ hok k1 a2 σ4) (fun _ h => fh_ob_ok h) rfl rfl ⟨q_837, q_839, qs_21, q_6, q_840⟩ pd_X5_isDial rfl ⟨⟨Nat.le_of_ble_eq_true rfl, Nat.le_of_ble_eq_true rfl⟩, rfl, rfl⟩ (Nat.le_of_ble_eq_true rfl) dX5_jog_2 (fun r6 σ5 => ?_)
  refine go_jn (fun (j10 : fh_S → Option (Int32 × fh_S)) => ∀ (σ7 : fh_S), fh_Go E M 3 fh_vI 21 [(0, .ref (fh_ad E k1))] [] σ7 (j10 σ7)) ?_ (fun j10 hj10 => ?_)
  · intro σ7
    refine go_aload_n C 0 rfl rfl dX5_jog_21 ?_
    refine go_ldc C q_820 dX5_jog_22 ?_
    refine go_callVI C (st := []) [.int ((-1000001 : Int32))] (m_X5_finding E _ hok k1 ((-1000001 : Int32)) σ7) (fun _ h => fh_ob_ok h) rfl rfl ⟨q_821, q_823, qs_19, q_6, q_824⟩ pd_X5_finding rfl ⟨⟨Nat.le_of_ble_eq_true rfl, Nat.le_of_ble_eq_true rfl⟩, rfl, rfl⟩ (Nat.le_of_ble_eq_true rfl) dX5_jog_24 (fun r9 σ8 => ?_)
    exact go_iret C Hr rfl dX5_jog_27
  refine go_if_eq (tgt := 21) C dX5_jog_5 rfl (fun _ => ?_) (fun _ => ?_)
  · refine go_lv [0] (lv' := [(0, .ref (fh_ad E k1))]) rfl ?_
    exact hj10 σ5
  · refine go_iload_n C 2 rfl rfl dX5_jog_8 ?_
    refine go_sipush C (-719 : Int32) dX5_jog_9 rfl ?_
    refine go_sipush C (719 : Int32) dX5_jog_12 rfl ?_
    refine go_callSI C (st := []) [.int a3, .int ((-719 : Int32)), .int ((719 : Int32))] (m_X5_within E _ hok a3 ((-719 : Int32)) ((719 : Int32)) σ5) rfl ⟨q_817, q_818, q_6, q_819⟩ pd_X5_within rfl ⟨⟨Nat.le_of_ble_eq_true rfl, Nat.le_of_ble_eq_true rfl⟩, rfl, rfl⟩ (Nat.le_of_ble_eq_true rfl) dX5_jog_15 (fun r12 σ11 => ?_)
    refine go_if_ne (tgt := 28) C dX5_jog_18 rfl (fun _ => ?_) (fun _ => ?_)
    · refine go_aload_n C 0 rfl rfl dX5_jog_28 ?_
      refine go_gr (ci := 5) (j := 0) C fh_in5 rfl (by decide) rfl q_746 dX5_jog_29 (fun k13 => ?_)
      refine go_iload_n C 1 rfl rfl dX5_jog_32 ?_
      refine go_iconst C (1 : Int32) dX5_jog_33 rfl ?_
      refine go_callSI C (st := [.ref (fh_ad E k13)]) [.int a2, .int ((1 : Int32))] (m_X5_at E _ hok a2 ((1 : Int32)) σ11) rfl ⟨q_830, q_831, q_6, q_832⟩ pd_X5_at rfl ⟨⟨Nat.le_of_ble_eq_true rfl, Nat.le_of_ble_eq_true rfl⟩, rfl, rfl⟩ (Nat.le_of_ble_eq_true rfl) dX5_jog_34 (fun r15 σ14 => ?_)
      refine go_aload_n C 0 rfl rfl dX5_jog_37 ?_
      refine go_iload_n C 1 rfl rfl dX5_jog_38 ?_
      refine go_iconst C (1 : Int32) dX5_jog_39 rfl ?_
      refine go_callVI C (st := [.int r15, .ref (fh_ad E k13)]) [.int a2, .int ((1 : Int32))] (m_X5_dialIs E _ hok k1 a2 ((1 : Int32)) σ14) (fun _ h => fh_ob_ok h) rfl rfl ⟨q_849, q_851, qs_24, q_6, q_852⟩ pd_X5_dialIs rfl ⟨⟨Nat.le_of_ble_eq_true rfl, Nat.le_of_ble_eq_true rfl⟩, rfl, rfl⟩ (Nat.le_of_ble_eq_true rfl) dX5_jog_40 (fun r17 σ16 => ?_)
      refine go_iload_n C 2 rfl rfl dX5_jog_43 ?_
      refine go_iadd C dX5_jog_44 ?_
      refine go_callSI C (st := [.int r15, .ref (fh_ad E k13)]) [.int (r17 + a3)] (m_X5_round E _ hok (r17 + a3) σ16) rfl ⟨q_881, q_882, q_6, q_883⟩ pd_X5_round rfl ⟨⟨Nat.le_of_ble_eq_true rfl, Nat.le_of_ble_eq_true rfl⟩, rfl, rfl⟩ (Nat.le_of_ble_eq_true rfl) dX5_jog_45 (fun r19 σ18 => ?_)
      refine go_iast C dX5_jog_48 (fun σ20 => ?_)
      refine go_aload_n C 0 rfl rfl dX5_jog_49 ?_
      refine go_iload_n C 1 rfl rfl dX5_jog_50 ?_
      refine go_iconst C (1 : Int32) dX5_jog_51 rfl ?_
      refine go_callVI C (st := []) [.int a2, .int ((1 : Int32))] (m_X5_dialIs E _ hok k1 a2 ((1 : Int32)) σ20) (fun _ h => fh_ob_ok h) rfl rfl ⟨q_849, q_851, qs_24, q_6, q_852⟩ pd_X5_dialIs rfl ⟨⟨Nat.le_of_ble_eq_true rfl, Nat.le_of_ble_eq_true rfl⟩, rfl, rfl⟩ (Nat.le_of_ble_eq_true rfl) dX5_jog_52 (fun r22 σ21 => ?_)
      exact go_iret C Hr rfl dX5_jog_55
    · refine go_lv [0] (lv' := [(0, .ref (fh_ad E k1))]) rfl ?_
      exact hj10 σ11
theorem m_X5_jog (E : fh_E) (l : Launch) (hok : fh_ok E) (k1 : Nat) (a2 : Int32) (a3 : Int32) (σ4 : fh_S) : fh_Met E l yX5_jog cX5_jog 3 ((some FieldType.int)) rm_X5_jog fh_vI [.ref (fh_ad E k1), .int a2, .int a3] σ4 (f_X5_jog k1 a2 a3 σ4) := fh_met hok (by decide +kernel) (Nat.le_of_ble_eq_true rfl) (fun M _ C Hr => g_X5_jog C Hr k1 a2 a3 σ4)
def f_X5_stops_J45 (k11 : Nat) (r13 : Int32) (x9 : Int32) : Int32 → fh_S → Option (Int32 × fh_S) := fun x14 σ15 => (fh_st σ15 k11 r13 x14).bind fun σ16 => fh_rz x9 σ16
def f_X5_stops_J19 (k1 : Nat) (a2 : Int32) (a3 : Int32) : Int32 → fh_S → Option (Int32 × fh_S) := fun x9 σ10 => (fh_gr 5 k1 0).bind fun k11 => fh_cb (f_X5_at a2 ((3 : Int32)) σ10) fun r13 σ12 => fh_jn (f_X5_stops_J45 k11 r13 x9) (fun j17 => if x9 = 0 then fh_cb (f_X5_dialIs k1 a2 ((3 : Int32)) σ12) fun r19 σ18 => j17 r19 σ18 else j17 (((1 : Int32)) - a3) σ12)
def f_X5_stops (k1 : Nat) (a2 : Int32) (a3 : Int32) (σ4 : fh_S) : Option (Int32 × fh_S) := fh_ob 5 k1 (fh_cb (f_X5_at a2 ((4 : Int32)) σ4) fun r6 σ5 => fh_cb (f_X5_become k1 r6 a3 σ5) fun r8 σ7 => fh_jn (f_X5_stops_J19 k1 a2 a3) (fun j20 => if r8 = a3 then j20 ((0 : Int32)) σ7 else j20 ((1 : Int32)) σ7))
abbrev rm_X5_stops : Room := { frames := 2, cells := 0, slots := 0, locals := 43 }
theorem pd_X5_stops : yX5_stops.cls ≠ "java/lang/invoke/MethodHandle" ∧ yX5_stops.cls ≠ "java/lang/invoke/VarHandle" ∧ (parseMethodDescriptor yX5_stops.desc).map (fun d => d.parameters.length) = some 2 := by decide +kernel
theorem dX5_stops_0 : decode cX5_stops 0 = .ok (.aload_n 0, 1) := by decide +kernel
theorem dX5_stops_1 : decode cX5_stops 1 = .ok (.iload_n 1, 1) := by decide +kernel
theorem dX5_stops_2 : decode cX5_stops 2 = .ok (.iconst 4, 1) := by decide +kernel
theorem dX5_stops_3 : decode cX5_stops 3 = .ok (.invokestatic 77, 3) := by decide +kernel
theorem dX5_stops_6 : decode cX5_stops 6 = .ok (.iload_n 2, 1) := by decide +kernel
theorem dX5_stops_7 : decode cX5_stops 7 = .ok (.invokevirtual 125, 3) := by decide +kernel
theorem dX5_stops_10 : decode cX5_stops 10 = .ok (.iload_n 2, 1) := by decide +kernel
theorem dX5_stops_11 : decode cX5_stops 11 = .ok (.if_icmp .eq 7, 3) := by decide +kernel
theorem dX5_stops_14 : decode cX5_stops 14 = .ok (.iconst 1, 1) := by decide +kernel
theorem dX5_stops_15 : decode cX5_stops 15 = .ok (.goto 4, 3) := by decide +kernel
theorem dX5_stops_18 : decode cX5_stops 18 = .ok (.iconst 0, 1) := by decide +kernel
theorem dX5_stops_19 : decode cX5_stops 19 = .ok (.istore_n 3, 1) := by decide +kernel
theorem dX5_stops_20 : decode cX5_stops 20 = .ok (.aload_n 0, 1) := by decide +kernel
theorem dX5_stops_21 : decode cX5_stops 21 = .ok (.getfield 9, 3) := by decide +kernel
theorem dX5_stops_24 : decode cX5_stops 24 = .ok (.iload_n 1, 1) := by decide +kernel
theorem dX5_stops_25 : decode cX5_stops 25 = .ok (.iconst 3, 1) := by decide +kernel
theorem dX5_stops_26 : decode cX5_stops 26 = .ok (.invokestatic 77, 3) := by decide +kernel
theorem dX5_stops_29 : decode cX5_stops 29 = .ok (.iload_n 3, 1) := by decide +kernel
theorem dX5_stops_30 : decode cX5_stops 30 = .ok (.ifCond .ne 12, 3) := by decide +kernel
theorem dX5_stops_33 : decode cX5_stops 33 = .ok (.aload_n 0, 1) := by decide +kernel
theorem dX5_stops_34 : decode cX5_stops 34 = .ok (.iload_n 1, 1) := by decide +kernel
theorem dX5_stops_35 : decode cX5_stops 35 = .ok (.iconst 3, 1) := by decide +kernel
theorem dX5_stops_36 : decode cX5_stops 36 = .ok (.invokevirtual 81, 3) := by decide +kernel
theorem dX5_stops_39 : decode cX5_stops 39 = .ok (.goto 6, 3) := by decide +kernel
theorem dX5_stops_42 : decode cX5_stops 42 = .ok (.iconst 1, 1) := by decide +kernel
theorem dX5_stops_43 : decode cX5_stops 43 = .ok (.iload_n 2, 1) := by decide +kernel
theorem dX5_stops_44 : decode cX5_stops 44 = .ok (.isub, 1) := by decide +kernel
theorem dX5_stops_45 : decode cX5_stops 45 = .ok (.iastore, 1) := by decide +kernel
theorem dX5_stops_46 : decode cX5_stops 46 = .ok (.iload_n 3, 1) := by decide +kernel
theorem dX5_stops_47 : decode cX5_stops 47 = .ok (.ireturn, 1) := by decide +kernel
set_option maxHeartbeats 4000000 in
set_option maxRecDepth 100000 in
theorem g_X5_stops {E : fh_E} {M : fh_M} (C : fh_Cx E M cX5_stops 4 RX5 ((some FieldType.boolean)) rm_X5_stops) (Hr : fh_Rt E M) (k1 : Nat) (a2 : Int32) (a3 : Int32) (σ4 : fh_S) : fh_Go E M 4 fh_vI 0 [(0, .ref (fh_ad E k1)), (1, .int a2), (2, .int a3)] [] σ4 (f_X5_stops k1 a2 a3 σ4) := by
  have hok := fh_cok C
  refine go_ob ?_
  refine go_aload_n C 0 rfl rfl dX5_stops_0 ?_
  refine go_iload_n C 1 rfl rfl dX5_stops_1 ?_
  refine go_iconst C (4 : Int32) dX5_stops_2 rfl ?_
  refine go_callSI C (st := [.ref (fh_ad E k1)]) [.int a2, .int ((4 : Int32))] (m_X5_at E _ hok a2 ((4 : Int32)) σ4) rfl ⟨q_830, q_831, q_6, q_832⟩ pd_X5_at rfl ⟨⟨Nat.le_of_ble_eq_true rfl, Nat.le_of_ble_eq_true rfl⟩, rfl, rfl⟩ (Nat.le_of_ble_eq_true rfl) dX5_stops_3 (fun r6 σ5 => ?_)
  refine go_iload_n C 2 rfl rfl dX5_stops_6 ?_
  refine go_callVI C (st := []) [.int r6, .int a3] (m_X5_become E _ hok k1 r6 a3 σ5) (fun _ h => fh_ob_ok h) rfl rfl ⟨q_873, q_875, qs_27, q_6, q_876⟩ pd_X5_become rfl ⟨⟨Nat.le_of_ble_eq_true rfl, Nat.le_of_ble_eq_true rfl⟩, rfl, rfl⟩ (Nat.le_of_ble_eq_true rfl) dX5_stops_7 (fun r8 σ7 => ?_)
  refine go_iload_n C 2 rfl rfl dX5_stops_10 ?_
  refine go_jn (fun (j20 : Int32 → fh_S → Option (Int32 × fh_S)) => ∀ (x9 : Int32) (σ10 : fh_S), fh_Go E M 4 fh_vI 19 [(0, .ref (fh_ad E k1)), (1, .int a2), (2, .int a3)] [.int x9] σ10 (j20 x9 σ10)) ?_ (fun j20 hj20 => ?_)
  · intro x9 σ10
    refine go_istore_n C [(3, .int x9), (0, .ref (fh_ad E k1)), (1, .int a2), (2, .int a3)] rfl rfl (by decide) dX5_stops_19 ?_
    refine go_aload_n C 1 rfl rfl dX5_stops_20 ?_
    refine go_gr (ci := 5) (j := 0) C fh_in5 rfl (by decide) rfl q_746 dX5_stops_21 (fun k11 => ?_)
    refine go_iload_n C 2 rfl rfl dX5_stops_24 ?_
    refine go_iconst C (3 : Int32) dX5_stops_25 rfl ?_
    refine go_callSI C (st := [.ref (fh_ad E k11)]) [.int a2, .int ((3 : Int32))] (m_X5_at E _ hok a2 ((3 : Int32)) σ10) rfl ⟨q_830, q_831, q_6, q_832⟩ pd_X5_at rfl ⟨⟨Nat.le_of_ble_eq_true rfl, Nat.le_of_ble_eq_true rfl⟩, rfl, rfl⟩ (Nat.le_of_ble_eq_true rfl) dX5_stops_26 (fun r13 σ12 => ?_)
    refine go_iload_n C 0 rfl rfl dX5_stops_29 ?_
    refine go_jn (fun (j17 : Int32 → fh_S → Option (Int32 × fh_S)) => ∀ (x14 : Int32) (σ15 : fh_S), fh_Go E M 4 fh_vI 45 [(3, .int x9)] [.int x14, .int r13, .ref (fh_ad E k11)] σ15 (j17 x14 σ15)) ?_ (fun j17 hj17 => ?_)
    · intro x14 σ15
      refine go_iast C dX5_stops_45 (fun σ16 => ?_)
      refine go_iload_n C 0 rfl rfl dX5_stops_46 ?_
      exact go_zret C Hr dX5_stops_47
    refine go_if_ne (tgt := 42) C dX5_stops_30 rfl (fun _ => ?_) (fun _ => ?_)
    · refine go_iconst C (1 : Int32) dX5_stops_42 rfl ?_
      refine go_iload_n C 3 rfl rfl dX5_stops_43 ?_
      refine go_isub C dX5_stops_44 ?_
      refine go_lv [0] (lv' := [(3, .int x9)]) rfl ?_
      exact hj17 (((1 : Int32)) - a3) σ12
    · refine go_aload_n C 1 rfl rfl dX5_stops_33 ?_
      refine go_iload_n C 2 rfl rfl dX5_stops_34 ?_
      refine go_iconst C (3 : Int32) dX5_stops_35 rfl ?_
      refine go_callVI C (st := [.int r13, .ref (fh_ad E k11)]) [.int a2, .int ((3 : Int32))] (m_X5_dialIs E _ hok k1 a2 ((3 : Int32)) σ12) (fun _ h => fh_ob_ok h) rfl rfl ⟨q_849, q_851, qs_24, q_6, q_852⟩ pd_X5_dialIs rfl ⟨⟨Nat.le_of_ble_eq_true rfl, Nat.le_of_ble_eq_true rfl⟩, rfl, rfl⟩ (Nat.le_of_ble_eq_true rfl) dX5_stops_36 (fun r19 σ18 => ?_)
      refine go_goto C 45 dX5_stops_39 rfl ?_
      refine go_lv [0] (lv' := [(3, .int x9)]) rfl ?_
      exact hj17 r19 σ18
  refine go_icmp_eq (tgt := 18) C dX5_stops_11 rfl (fun _ => ?_) (fun _ => ?_)
  · refine go_iconst C (0 : Int32) dX5_stops_18 rfl ?_
    exact hj20 ((0 : Int32)) σ7
  · refine go_iconst C (1 : Int32) dX5_stops_14 rfl ?_
    refine go_goto C 19 dX5_stops_15 rfl ?_
    exact hj20 ((1 : Int32)) σ7
theorem m_X5_stops (E : fh_E) (l : Launch) (hok : fh_ok E) (k1 : Nat) (a2 : Int32) (a3 : Int32) (σ4 : fh_S) : fh_Met E l yX5_stops cX5_stops 4 ((some FieldType.boolean)) rm_X5_stops fh_vI [.ref (fh_ad E k1), .int a2, .int a3] σ4 (f_X5_stops k1 a2 a3 σ4) := fh_met hok (by decide +kernel) (Nat.le_of_ble_eq_true rfl) (fun M _ C Hr => g_X5_stops C Hr k1 a2 a3 σ4)
def f_X5_stop_J17 (k1 : Nat) : fh_S → Option (Int32 × fh_S) := fun σ7 => fh_cb (f_X5_finding k1 ((-1000001 : Int32)) σ7) fun r9 σ8 => some (r9, σ8)
def f_X5_stop (k1 : Nat) (a2 : Int32) (a3 : Int32) (σ4 : fh_S) : Option (Int32 × fh_S) := fh_ob 5 k1 (fh_cb (f_X5_isDial k1 a2 σ4) fun r6 σ5 => fh_jn (f_X5_stop_J17 k1) (fun j10 => if r6 = 0 then j10 σ5 else fh_cb (f_X5_within a3 ((0 : Int32)) ((1 : Int32)) σ5) fun r12 σ11 => if r12 = 0 then j10 σ11 else fh_cb (f_X5_stops k1 a2 a3 σ11) fun r14 σ13 => if r14 = 0 then some ((0 : Int32), σ13) else some ((1 : Int32), σ13)))
abbrev rm_X5_stop : Room := { frames := 3, cells := 0, slots := 0, locals := 66 }
theorem pd_X5_stop : yX5_stop.cls ≠ "java/lang/invoke/MethodHandle" ∧ yX5_stop.cls ≠ "java/lang/invoke/VarHandle" ∧ (parseMethodDescriptor yX5_stop.desc).map (fun d => d.parameters.length) = some 2 := by decide +kernel
theorem dX5_stop_0 : decode cX5_stop 0 = .ok (.aload_n 0, 1) := by decide +kernel
theorem dX5_stop_1 : decode cX5_stop 1 = .ok (.iload_n 1, 1) := by decide +kernel
theorem dX5_stop_2 : decode cX5_stop 2 = .ok (.invokevirtual 112, 3) := by decide +kernel
theorem dX5_stop_5 : decode cX5_stop 5 = .ok (.ifCond .eq 12, 3) := by decide +kernel
theorem dX5_stop_8 : decode cX5_stop 8 = .ok (.iload_n 2, 1) := by decide +kernel
theorem dX5_stop_9 : decode cX5_stop 9 = .ok (.iconst 0, 1) := by decide +kernel
theorem dX5_stop_10 : decode cX5_stop 10 = .ok (.iconst 1, 1) := by decide +kernel
theorem dX5_stop_11 : decode cX5_stop 11 = .ok (.invokestatic 73, 3) := by decide +kernel
theorem dX5_stop_14 : decode cX5_stop 14 = .ok (.ifCond .ne 10, 3) := by decide +kernel
theorem dX5_stop_17 : decode cX5_stop 17 = .ok (.aload_n 0, 1) := by decide +kernel
theorem dX5_stop_18 : decode cX5_stop 18 = .ok (.ldc 63, 2) := by decide +kernel
theorem dX5_stop_20 : decode cX5_stop 20 = .ok (.invokevirtual 69, 3) := by decide +kernel
theorem dX5_stop_23 : decode cX5_stop 23 = .ok (.ireturn, 1) := by decide +kernel
theorem dX5_stop_24 : decode cX5_stop 24 = .ok (.aload_n 0, 1) := by decide +kernel
theorem dX5_stop_25 : decode cX5_stop 25 = .ok (.iload_n 1, 1) := by decide +kernel
theorem dX5_stop_26 : decode cX5_stop 26 = .ok (.iload_n 2, 1) := by decide +kernel
theorem dX5_stop_27 : decode cX5_stop 27 = .ok (.invokevirtual 131, 3) := by decide +kernel
theorem dX5_stop_30 : decode cX5_stop 30 = .ok (.ifCond .eq 7, 3) := by decide +kernel
theorem dX5_stop_33 : decode cX5_stop 33 = .ok (.iconst 1, 1) := by decide +kernel
theorem dX5_stop_34 : decode cX5_stop 34 = .ok (.goto 4, 3) := by decide +kernel
theorem dX5_stop_37 : decode cX5_stop 37 = .ok (.iconst 0, 1) := by decide +kernel
theorem dX5_stop_38 : decode cX5_stop 38 = .ok (.ireturn, 1) := by decide +kernel
set_option maxHeartbeats 4000000 in
set_option maxRecDepth 100000 in
theorem g_X5_stop {E : fh_E} {M : fh_M} (C : fh_Cx E M cX5_stop 3 RX5 ((some FieldType.int)) rm_X5_stop) (Hr : fh_Rt E M) (k1 : Nat) (a2 : Int32) (a3 : Int32) (σ4 : fh_S) : fh_Go E M 3 fh_vI 0 [(0, .ref (fh_ad E k1)), (1, .int a2), (2, .int a3)] [] σ4 (f_X5_stop k1 a2 a3 σ4) := by
  have hok := fh_cok C
  refine go_ob ?_
  refine go_aload_n C 0 rfl rfl dX5_stop_0 ?_
  refine go_iload_n C 1 rfl rfl dX5_stop_1 ?_
  refine go_callVI C (st := []) [.int a2] (m_X5_isDial E _ hok k1 a2 σ4) (fun _ h => fh_ob_ok h) rfl rfl ⟨q_837, q_839, qs_21, q_6, q_840⟩ pd_X5_isDial rfl ⟨⟨Nat.le_of_ble_eq_true rfl, Nat.le_of_ble_eq_true rfl⟩, rfl, rfl⟩ (Nat.le_of_ble_eq_true rfl) dX5_stop_2 (fun r6 σ5 => ?_)
  refine go_jn (fun (j10 : fh_S → Option (Int32 × fh_S)) => ∀ (σ7 : fh_S), fh_Go E M 3 fh_vI 17 [(0, .ref (fh_ad E k1))] [] σ7 (j10 σ7)) ?_ (fun j10 hj10 => ?_)
  · intro σ7
    refine go_aload_n C 0 rfl rfl dX5_stop_17 ?_
    refine go_ldc C q_820 dX5_stop_18 ?_
    refine go_callVI C (st := []) [.int ((-1000001 : Int32))] (m_X5_finding E _ hok k1 ((-1000001 : Int32)) σ7) (fun _ h => fh_ob_ok h) rfl rfl ⟨q_821, q_823, qs_19, q_6, q_824⟩ pd_X5_finding rfl ⟨⟨Nat.le_of_ble_eq_true rfl, Nat.le_of_ble_eq_true rfl⟩, rfl, rfl⟩ (Nat.le_of_ble_eq_true rfl) dX5_stop_20 (fun r9 σ8 => ?_)
    exact go_iret C Hr rfl dX5_stop_23
  refine go_if_eq (tgt := 17) C dX5_stop_5 rfl (fun _ => ?_) (fun _ => ?_)
  · refine go_lv [0] (lv' := [(0, .ref (fh_ad E k1))]) rfl ?_
    exact hj10 σ5
  · refine go_iload_n C 2 rfl rfl dX5_stop_8 ?_
    refine go_iconst C (0 : Int32) dX5_stop_9 rfl ?_
    refine go_iconst C (1 : Int32) dX5_stop_10 rfl ?_
    refine go_callSI C (st := []) [.int a3, .int ((0 : Int32)), .int ((1 : Int32))] (m_X5_within E _ hok a3 ((0 : Int32)) ((1 : Int32)) σ5) rfl ⟨q_817, q_818, q_6, q_819⟩ pd_X5_within rfl ⟨⟨Nat.le_of_ble_eq_true rfl, Nat.le_of_ble_eq_true rfl⟩, rfl, rfl⟩ (Nat.le_of_ble_eq_true rfl) dX5_stop_11 (fun r12 σ11 => ?_)
    refine go_if_ne (tgt := 24) C dX5_stop_14 rfl (fun _ => ?_) (fun _ => ?_)
    · refine go_aload_n C 0 rfl rfl dX5_stop_24 ?_
      refine go_iload_n C 1 rfl rfl dX5_stop_25 ?_
      refine go_iload_n C 2 rfl rfl dX5_stop_26 ?_
      refine go_callVI C (st := []) [.int a2, .int a3] (m_X5_stops E _ hok k1 a2 a3 σ11) (fun _ h => fh_ob_ok h) rfl rfl ⟨q_888, q_890, qs_28, q_6, q_891⟩ pd_X5_stops rfl ⟨⟨Nat.le_of_ble_eq_true rfl, Nat.le_of_ble_eq_true rfl⟩, rfl, rfl⟩ (Nat.le_of_ble_eq_true rfl) dX5_stop_27 (fun r14 σ13 => ?_)
      refine go_if_eq (tgt := 37) C dX5_stop_30 rfl (fun _ => ?_) (fun _ => ?_)
      · refine go_iconst C (0 : Int32) dX5_stop_37 rfl ?_
        exact go_iret C Hr rfl dX5_stop_38
      · refine go_iconst C (1 : Int32) dX5_stop_33 rfl ?_
        refine go_goto C 38 dX5_stop_34 rfl ?_
        exact go_iret C Hr rfl dX5_stop_38
    · refine go_lv [0] (lv' := [(0, .ref (fh_ad E k1))]) rfl ?_
      exact hj10 σ11
theorem m_X5_stop (E : fh_E) (l : Launch) (hok : fh_ok E) (k1 : Nat) (a2 : Int32) (a3 : Int32) (σ4 : fh_S) : fh_Met E l yX5_stop cX5_stop 3 ((some FieldType.int)) rm_X5_stop fh_vI [.ref (fh_ad E k1), .int a2, .int a3] σ4 (f_X5_stop k1 a2 a3 σ4) := fh_met hok (by decide +kernel) (Nat.le_of_ble_eq_true rfl) (fun M _ C Hr => g_X5_stop C Hr k1 a2 a3 σ4)
def f_X5_tick_B43 (k1 : Nat) (r10 : Int32 → fh_S → Option (Unit × fh_S)) : Int32 → fh_S → Option (Unit × fh_S) := fun x8 σ9 => (fh_gr 5 k1 0).bind fun k11 => (fh_ld σ9 k11 ((1 : Int32))).bind fun v12 => if v12 ≤ x8 then (fh_gr 5 k1 0).bind fun k13 => (fh_ld σ9 k13 ((0 : Int32))).bind fun v14 => (fh_st σ9 k13 ((0 : Int32)) (v14 + ((1 : Int32)))).bind fun σ15 => some ((), σ15) else (fh_gr 5 k1 0).bind fun k16 => fh_cb (f_X5_at x8 ((3 : Int32)) σ9) fun r18 σ17 => (fh_gr 5 k1 5).bind fun k19 => (fh_ld σ17 k19 x8).bind fun v20 => (fh_st σ17 k16 r18 v20).bind fun σ21 => (fh_gr 5 k1 0).bind fun k22 => fh_cb (f_X5_at x8 ((1 : Int32)) σ21) fun r24 σ23 => fh_cb (f_X5_dialIs k1 x8 ((1 : Int32)) σ23) fun r26 σ25 => (fh_gr 5 k1 5).bind fun k27 => (fh_ld σ25 k27 x8).bind fun v28 => fh_cb (f_X5_round (r26 + v28) σ25) fun r30 σ29 => (fh_st σ29 k22 r24 r30).bind fun σ31 => r10 (x8 + 1) σ31
def f_X5_tick_J34 (k32 : Nat) (x3 : Int32) (r5 : Int32 → fh_S → Option (Unit × fh_S)) : Int32 → fh_S → Option (Unit × fh_S) := fun x35 σ36 => (fh_st σ36 k32 x3 x35).bind fun σ37 => r5 (x3 + 1) σ37
def f_X5_tick_B2 (k1 : Nat) (r5 : Int32 → fh_S → Option (Unit × fh_S)) : Int32 → fh_S → Option (Unit × fh_S) := fun x3 σ4 => (fh_gr 5 k1 0).bind fun k6 => (fh_ld σ4 k6 ((1 : Int32))).bind fun v7 => if v7 ≤ x3 then fh_fx (ρ := Int32 → fh_S → Option (Unit × fh_S)) (fun _ _ => none) (f_X5_tick_B43 k1) fh_fu ((0 : Int32)) σ4 else (fh_gr 5 k1 5).bind fun k32 => fh_cb (f_X5_isStopped k1 x3 σ4) fun r34 σ33 => fh_jn (f_X5_tick_J34 k32 x3 r5) (fun j38 => if r34 = 0 then fh_cb (f_X5_pace k1 x3 σ33) fun r40 σ39 => j38 r40 σ39 else j38 ((0 : Int32)) σ33)
def f_X5_tick (k1 : Nat) (σ2 : fh_S) : Option (Unit × fh_S) := fh_ob 5 k1 (fh_fx (ρ := Int32 → fh_S → Option (Unit × fh_S)) (fun _ _ => none) (f_X5_tick_B2 k1) fh_fu ((0 : Int32)) σ2)
abbrev rm_X5_tick : Room := { frames := 5, cells := 0, slots := 0, locals := 111 }
theorem pd_X5_tick : yX5_tick.cls ≠ "java/lang/invoke/MethodHandle" ∧ yX5_tick.cls ≠ "java/lang/invoke/VarHandle" ∧ (parseMethodDescriptor yX5_tick.desc).map (fun d => d.parameters.length) = some 0 := by decide +kernel
theorem dX5_tick_0 : decode cX5_tick 0 = .ok (.iconst 0, 1) := by decide +kernel
theorem dX5_tick_1 : decode cX5_tick 1 = .ok (.istore_n 1, 1) := by decide +kernel
theorem dX5_tick_2 : decode cX5_tick 2 = .ok (.iload_n 1, 1) := by decide +kernel
theorem dX5_tick_3 : decode cX5_tick 3 = .ok (.aload_n 0, 1) := by decide +kernel
theorem dX5_tick_4 : decode cX5_tick 4 = .ok (.getfield 9, 3) := by decide +kernel
theorem dX5_tick_7 : decode cX5_tick 7 = .ok (.iconst 1, 1) := by decide +kernel
theorem dX5_tick_8 : decode cX5_tick 8 = .ok (.iaload, 1) := by decide +kernel
theorem dX5_tick_9 : decode cX5_tick 9 = .ok (.if_icmp .ge 32, 3) := by decide +kernel
theorem dX5_tick_12 : decode cX5_tick 12 = .ok (.aload_n 0, 1) := by decide +kernel
theorem dX5_tick_13 : decode cX5_tick 13 = .ok (.getfield 22, 3) := by decide +kernel
theorem dX5_tick_16 : decode cX5_tick 16 = .ok (.iload_n 1, 1) := by decide +kernel
theorem dX5_tick_17 : decode cX5_tick 17 = .ok (.aload_n 0, 1) := by decide +kernel
theorem dX5_tick_18 : decode cX5_tick 18 = .ok (.iload_n 1, 1) := by decide +kernel
theorem dX5_tick_19 : decode cX5_tick 19 = .ok (.invokevirtual 98, 3) := by decide +kernel
theorem dX5_tick_22 : decode cX5_tick 22 = .ok (.ifCond .eq 7, 3) := by decide +kernel
theorem dX5_tick_25 : decode cX5_tick 25 = .ok (.iconst 0, 1) := by decide +kernel
theorem dX5_tick_26 : decode cX5_tick 26 = .ok (.goto 8, 3) := by decide +kernel
theorem dX5_tick_29 : decode cX5_tick 29 = .ok (.aload_n 0, 1) := by decide +kernel
theorem dX5_tick_30 : decode cX5_tick 30 = .ok (.iload_n 1, 1) := by decide +kernel
theorem dX5_tick_31 : decode cX5_tick 31 = .ok (.invokevirtual 115, 3) := by decide +kernel
theorem dX5_tick_34 : decode cX5_tick 34 = .ok (.iastore, 1) := by decide +kernel
theorem dX5_tick_35 : decode cX5_tick 35 = .ok (.iinc 1 1, 3) := by decide +kernel
theorem dX5_tick_38 : decode cX5_tick 38 = .ok (.goto (-36), 3) := by decide +kernel
theorem dX5_tick_41 : decode cX5_tick 41 = .ok (.iconst 0, 1) := by decide +kernel
theorem dX5_tick_42 : decode cX5_tick 42 = .ok (.istore_n 1, 1) := by decide +kernel
theorem dX5_tick_43 : decode cX5_tick 43 = .ok (.iload_n 1, 1) := by decide +kernel
theorem dX5_tick_44 : decode cX5_tick 44 = .ok (.aload_n 0, 1) := by decide +kernel
theorem dX5_tick_45 : decode cX5_tick 45 = .ok (.getfield 9, 3) := by decide +kernel
theorem dX5_tick_48 : decode cX5_tick 48 = .ok (.iconst 1, 1) := by decide +kernel
theorem dX5_tick_49 : decode cX5_tick 49 = .ok (.iaload, 1) := by decide +kernel
theorem dX5_tick_50 : decode cX5_tick 50 = .ok (.if_icmp .ge 51, 3) := by decide +kernel
theorem dX5_tick_53 : decode cX5_tick 53 = .ok (.aload_n 0, 1) := by decide +kernel
theorem dX5_tick_54 : decode cX5_tick 54 = .ok (.getfield 9, 3) := by decide +kernel
theorem dX5_tick_57 : decode cX5_tick 57 = .ok (.iload_n 1, 1) := by decide +kernel
theorem dX5_tick_58 : decode cX5_tick 58 = .ok (.iconst 3, 1) := by decide +kernel
theorem dX5_tick_59 : decode cX5_tick 59 = .ok (.invokestatic 77, 3) := by decide +kernel
theorem dX5_tick_62 : decode cX5_tick 62 = .ok (.aload_n 0, 1) := by decide +kernel
theorem dX5_tick_63 : decode cX5_tick 63 = .ok (.getfield 22, 3) := by decide +kernel
theorem dX5_tick_66 : decode cX5_tick 66 = .ok (.iload_n 1, 1) := by decide +kernel
theorem dX5_tick_67 : decode cX5_tick 67 = .ok (.iaload, 1) := by decide +kernel
theorem dX5_tick_68 : decode cX5_tick 68 = .ok (.iastore, 1) := by decide +kernel
theorem dX5_tick_69 : decode cX5_tick 69 = .ok (.aload_n 0, 1) := by decide +kernel
theorem dX5_tick_70 : decode cX5_tick 70 = .ok (.getfield 9, 3) := by decide +kernel
theorem dX5_tick_73 : decode cX5_tick 73 = .ok (.iload_n 1, 1) := by decide +kernel
theorem dX5_tick_74 : decode cX5_tick 74 = .ok (.iconst 1, 1) := by decide +kernel
theorem dX5_tick_75 : decode cX5_tick 75 = .ok (.invokestatic 77, 3) := by decide +kernel
theorem dX5_tick_78 : decode cX5_tick 78 = .ok (.aload_n 0, 1) := by decide +kernel
theorem dX5_tick_79 : decode cX5_tick 79 = .ok (.iload_n 1, 1) := by decide +kernel
theorem dX5_tick_80 : decode cX5_tick 80 = .ok (.iconst 1, 1) := by decide +kernel
theorem dX5_tick_81 : decode cX5_tick 81 = .ok (.invokevirtual 81, 3) := by decide +kernel
theorem dX5_tick_84 : decode cX5_tick 84 = .ok (.aload_n 0, 1) := by decide +kernel
theorem dX5_tick_85 : decode cX5_tick 85 = .ok (.getfield 22, 3) := by decide +kernel
theorem dX5_tick_88 : decode cX5_tick 88 = .ok (.iload_n 1, 1) := by decide +kernel
theorem dX5_tick_89 : decode cX5_tick 89 = .ok (.iaload, 1) := by decide +kernel
theorem dX5_tick_90 : decode cX5_tick 90 = .ok (.iadd, 1) := by decide +kernel
theorem dX5_tick_91 : decode cX5_tick 91 = .ok (.invokestatic 128, 3) := by decide +kernel
theorem dX5_tick_94 : decode cX5_tick 94 = .ok (.iastore, 1) := by decide +kernel
theorem dX5_tick_95 : decode cX5_tick 95 = .ok (.iinc 1 1, 3) := by decide +kernel
theorem dX5_tick_98 : decode cX5_tick 98 = .ok (.goto (-55), 3) := by decide +kernel
theorem dX5_tick_101 : decode cX5_tick 101 = .ok (.aload_n 0, 1) := by decide +kernel
theorem dX5_tick_102 : decode cX5_tick 102 = .ok (.getfield 9, 3) := by decide +kernel
theorem dX5_tick_105 : decode cX5_tick 105 = .ok (.iconst 0, 1) := by decide +kernel
theorem dX5_tick_106 : decode cX5_tick 106 = .ok (.dup2, 1) := by decide +kernel
theorem dX5_tick_107 : decode cX5_tick 107 = .ok (.iaload, 1) := by decide +kernel
theorem dX5_tick_108 : decode cX5_tick 108 = .ok (.iconst 1, 1) := by decide +kernel
theorem dX5_tick_109 : decode cX5_tick 109 = .ok (.iadd, 1) := by decide +kernel
theorem dX5_tick_110 : decode cX5_tick 110 = .ok (.iastore, 1) := by decide +kernel
theorem dX5_tick_111 : decode cX5_tick 111 = .ok (.return_, 1) := by decide +kernel
set_option maxHeartbeats 4000000 in
set_option maxRecDepth 100000 in
theorem g_X5_tick {E : fh_E} {M : fh_M} (C : fh_Cx E M cX5_tick 2 RX5 (none) rm_X5_tick) (Hr : fh_Rt E M) (k1 : Nat) (σ2 : fh_S) : fh_Go E M 2 fh_vU 0 [(0, .ref (fh_ad E k1))] [] σ2 (f_X5_tick k1 σ2) := by
  have hok := fh_cok C
  refine go_ob ?_
  refine go_iconst C (0 : Int32) dX5_tick_0 rfl ?_
  refine go_istore_n C [(1, .int ((0 : Int32))), (0, .ref (fh_ad E k1))] rfl rfl (by decide) dX5_tick_1 ?_
  refine go_lv [1, 0] (lv' := [(0, .ref (fh_ad E k1)), (1, .int ((0 : Int32)))]) rfl ?_
  refine go_fx (fun (r5 : Int32 → fh_S → Option (Unit × fh_S)) => ∀ (x3 : Int32) (σ4 : fh_S), fh_Go E M 2 fh_vU 2 [(0, .ref (fh_ad E k1)), (1, .int x3)] [] σ4 (r5 x3 σ4)) ?_ ?_ fh_fu ((0 : Int32)) σ2
  · intro x3 σ4
    exact go_none
  · intro r5 hr5 x3 σ4
    refine go_iload_n C 1 rfl rfl dX5_tick_2 ?_
    refine go_aload_n C 0 rfl rfl dX5_tick_3 ?_
    refine go_gr (ci := 5) (j := 0) C fh_in5 rfl (by decide) rfl q_746 dX5_tick_4 (fun k6 => ?_)
    refine go_iconst C (1 : Int32) dX5_tick_7 rfl ?_
    refine go_iald C dX5_tick_8 (fun v7 => ?_)
    refine go_icmp_ge (tgt := 41) C dX5_tick_9 rfl (fun _ => ?_) (fun _ => ?_)
    · refine go_iconst C (0 : Int32) dX5_tick_41 rfl ?_
      refine go_istore_n C [(1, .int ((0 : Int32))), (0, .ref (fh_ad E k1))] rfl rfl (by decide) dX5_tick_42 ?_
      refine go_lv [1, 0] (lv' := [(0, .ref (fh_ad E k1)), (1, .int ((0 : Int32)))]) rfl ?_
      refine go_fx (fun (r10 : Int32 → fh_S → Option (Unit × fh_S)) => ∀ (x8 : Int32) (σ9 : fh_S), fh_Go E M 2 fh_vU 43 [(0, .ref (fh_ad E k1)), (1, .int x8)] [] σ9 (r10 x8 σ9)) ?_ ?_ fh_fu ((0 : Int32)) σ4
      · intro x8 σ9
        exact go_none
      · intro r10 hr10 x8 σ9
        refine go_iload_n C 1 rfl rfl dX5_tick_43 ?_
        refine go_aload_n C 0 rfl rfl dX5_tick_44 ?_
        refine go_gr (ci := 5) (j := 0) C fh_in5 rfl (by decide) rfl q_746 dX5_tick_45 (fun k11 => ?_)
        refine go_iconst C (1 : Int32) dX5_tick_48 rfl ?_
        refine go_iald C dX5_tick_49 (fun v12 => ?_)
        refine go_icmp_ge (tgt := 101) C dX5_tick_50 rfl (fun _ => ?_) (fun _ => ?_)
        · refine go_aload_n C 0 rfl rfl dX5_tick_101 ?_
          refine go_gr (ci := 5) (j := 0) C fh_in5 rfl (by decide) rfl q_746 dX5_tick_102 (fun k13 => ?_)
          refine go_iconst C (0 : Int32) dX5_tick_105 rfl ?_
          refine go_dup2 C rfl rfl dX5_tick_106 ?_
          refine go_iald C dX5_tick_107 (fun v14 => ?_)
          refine go_iconst C (1 : Int32) dX5_tick_108 rfl ?_
          refine go_iadd C dX5_tick_109 ?_
          refine go_iast C dX5_tick_110 (fun σ15 => ?_)
          exact go_vret C Hr rfl dX5_tick_111
        · refine go_aload_n C 0 rfl rfl dX5_tick_53 ?_
          refine go_gr (ci := 5) (j := 0) C fh_in5 rfl (by decide) rfl q_746 dX5_tick_54 (fun k16 => ?_)
          refine go_iload_n C 1 rfl rfl dX5_tick_57 ?_
          refine go_iconst C (3 : Int32) dX5_tick_58 rfl ?_
          refine go_callSI C (st := [.ref (fh_ad E k16)]) [.int x8, .int ((3 : Int32))] (m_X5_at E _ hok x8 ((3 : Int32)) σ9) rfl ⟨q_830, q_831, q_6, q_832⟩ pd_X5_at rfl ⟨⟨Nat.le_of_ble_eq_true rfl, Nat.le_of_ble_eq_true rfl⟩, rfl, rfl⟩ (Nat.le_of_ble_eq_true rfl) dX5_tick_59 (fun r18 σ17 => ?_)
          refine go_aload_n C 0 rfl rfl dX5_tick_62 ?_
          refine go_gr (ci := 5) (j := 5) C fh_in5 rfl (by decide) rfl q_751 dX5_tick_63 (fun k19 => ?_)
          refine go_iload_n C 1 rfl rfl dX5_tick_66 ?_
          refine go_iald C dX5_tick_67 (fun v20 => ?_)
          refine go_iast C dX5_tick_68 (fun σ21 => ?_)
          refine go_aload_n C 0 rfl rfl dX5_tick_69 ?_
          refine go_gr (ci := 5) (j := 0) C fh_in5 rfl (by decide) rfl q_746 dX5_tick_70 (fun k22 => ?_)
          refine go_iload_n C 1 rfl rfl dX5_tick_73 ?_
          refine go_iconst C (1 : Int32) dX5_tick_74 rfl ?_
          refine go_callSI C (st := [.ref (fh_ad E k22)]) [.int x8, .int ((1 : Int32))] (m_X5_at E _ hok x8 ((1 : Int32)) σ21) rfl ⟨q_830, q_831, q_6, q_832⟩ pd_X5_at rfl ⟨⟨Nat.le_of_ble_eq_true rfl, Nat.le_of_ble_eq_true rfl⟩, rfl, rfl⟩ (Nat.le_of_ble_eq_true rfl) dX5_tick_75 (fun r24 σ23 => ?_)
          refine go_aload_n C 0 rfl rfl dX5_tick_78 ?_
          refine go_iload_n C 1 rfl rfl dX5_tick_79 ?_
          refine go_iconst C (1 : Int32) dX5_tick_80 rfl ?_
          refine go_callVI C (st := [.int r24, .ref (fh_ad E k22)]) [.int x8, .int ((1 : Int32))] (m_X5_dialIs E _ hok k1 x8 ((1 : Int32)) σ23) (fun _ h => fh_ob_ok h) rfl rfl ⟨q_849, q_851, qs_24, q_6, q_852⟩ pd_X5_dialIs rfl ⟨⟨Nat.le_of_ble_eq_true rfl, Nat.le_of_ble_eq_true rfl⟩, rfl, rfl⟩ (Nat.le_of_ble_eq_true rfl) dX5_tick_81 (fun r26 σ25 => ?_)
          refine go_aload_n C 0 rfl rfl dX5_tick_84 ?_
          refine go_gr (ci := 5) (j := 5) C fh_in5 rfl (by decide) rfl q_751 dX5_tick_85 (fun k27 => ?_)
          refine go_iload_n C 1 rfl rfl dX5_tick_88 ?_
          refine go_iald C dX5_tick_89 (fun v28 => ?_)
          refine go_iadd C dX5_tick_90 ?_
          refine go_callSI C (st := [.int r24, .ref (fh_ad E k22)]) [.int (r26 + v28)] (m_X5_round E _ hok (r26 + v28) σ25) rfl ⟨q_881, q_882, q_6, q_883⟩ pd_X5_round rfl ⟨⟨Nat.le_of_ble_eq_true rfl, Nat.le_of_ble_eq_true rfl⟩, rfl, rfl⟩ (Nat.le_of_ble_eq_true rfl) dX5_tick_91 (fun r30 σ29 => ?_)
          refine go_iast C dX5_tick_94 (fun σ31 => ?_)
          refine go_iinc C (x8 + 1) 1 [(1, .int (x8 + 1)), (0, .ref (fh_ad E k1))] rfl rfl rfl (by decide) dX5_tick_95 ?_
          refine go_goto C 43 dX5_tick_98 rfl ?_
          refine go_lv [1, 0] (lv' := [(0, .ref (fh_ad E k1)), (1, .int (x8 + 1))]) rfl ?_
          exact hr10 (x8 + 1) σ31
    · refine go_aload_n C 0 rfl rfl dX5_tick_12 ?_
      refine go_gr (ci := 5) (j := 5) C fh_in5 rfl (by decide) rfl q_751 dX5_tick_13 (fun k32 => ?_)
      refine go_iload_n C 1 rfl rfl dX5_tick_16 ?_
      refine go_aload_n C 0 rfl rfl dX5_tick_17 ?_
      refine go_iload_n C 1 rfl rfl dX5_tick_18 ?_
      refine go_callVI C (st := [.int x3, .ref (fh_ad E k32)]) [.int x3] (m_X5_isStopped E _ hok k1 x3 σ4) (fun _ h => fh_ob_ok h) rfl rfl ⟨q_856, q_858, qs_25, q_6, q_859⟩ pd_X5_isStopped rfl ⟨⟨Nat.le_of_ble_eq_true rfl, Nat.le_of_ble_eq_true rfl⟩, rfl, rfl⟩ (Nat.le_of_ble_eq_true rfl) dX5_tick_19 (fun r34 σ33 => ?_)
      refine go_jn (fun (j38 : Int32 → fh_S → Option (Unit × fh_S)) => ∀ (x35 : Int32) (σ36 : fh_S), fh_Go E M 2 fh_vU 34 [(0, .ref (fh_ad E k1)), (1, .int x3)] [.int x35, .int x3, .ref (fh_ad E k32)] σ36 (j38 x35 σ36)) ?_ (fun j38 hj38 => ?_)
      · intro x35 σ36
        refine go_iast C dX5_tick_34 (fun σ37 => ?_)
        refine go_iinc C (x3 + 1) 1 [(1, .int (x3 + 1)), (0, .ref (fh_ad E k1))] rfl rfl rfl (by decide) dX5_tick_35 ?_
        refine go_goto C 2 dX5_tick_38 rfl ?_
        refine go_lv [1, 0] (lv' := [(0, .ref (fh_ad E k1)), (1, .int (x3 + 1))]) rfl ?_
        exact hr5 (x3 + 1) σ37
      refine go_if_eq (tgt := 29) C dX5_tick_22 rfl (fun _ => ?_) (fun _ => ?_)
      · refine go_aload_n C 0 rfl rfl dX5_tick_29 ?_
        refine go_iload_n C 1 rfl rfl dX5_tick_30 ?_
        refine go_callVI C (st := [.int x3, .ref (fh_ad E k32)]) [.int x3] (m_X5_pace E _ hok k1 x3 σ33) (fun _ h => fh_ob_ok h) rfl rfl ⟨q_841, q_843, qs_22, q_6, q_844⟩ pd_X5_pace rfl ⟨⟨Nat.le_of_ble_eq_true rfl, Nat.le_of_ble_eq_true rfl⟩, rfl, rfl⟩ (Nat.le_of_ble_eq_true rfl) dX5_tick_31 (fun r40 σ39 => ?_)
        exact hj38 r40 σ39
      · refine go_iconst C (0 : Int32) dX5_tick_25 rfl ?_
        refine go_goto C 34 dX5_tick_26 rfl ?_
        exact hj38 ((0 : Int32)) σ33
theorem m_X5_tick (E : fh_E) (l : Launch) (hok : fh_ok E) (k1 : Nat) (σ2 : fh_S) : fh_Met E l yX5_tick cX5_tick 2 (none) rm_X5_tick fh_vU [.ref (fh_ad E k1)] σ2 (f_X5_tick k1 σ2) := fh_met hok (by decide +kernel) (Nat.le_of_ble_eq_true rfl) (fun M _ C Hr => g_X5_tick C Hr k1 σ2)
def f_X5_ticks_B2 (a2 : Int32) (k1 : Nat) (r6 : Int32 → fh_S → Option (Unit × fh_S)) : Int32 → fh_S → Option (Unit × fh_S) := fun x4 σ5 => if a2 ≤ x4 then some ((), σ5) else fh_cb (f_X5_tick k1 σ5) fun _ σ7 => r6 (x4 + 1) σ7
def f_X5_ticks (k1 : Nat) (a2 : Int32) (σ3 : fh_S) : Option (Unit × fh_S) := fh_ob 5 k1 (fh_fx (ρ := Int32 → fh_S → Option (Unit × fh_S)) (fun _ _ => none) (f_X5_ticks_B2 a2 k1) fh_fu ((0 : Int32)) σ3)
abbrev rm_X5_ticks : Room := { frames := 6, cells := 0, slots := 0, locals := 132 }
theorem pd_X5_ticks : yX5_ticks.cls ≠ "java/lang/invoke/MethodHandle" ∧ yX5_ticks.cls ≠ "java/lang/invoke/VarHandle" ∧ (parseMethodDescriptor yX5_ticks.desc).map (fun d => d.parameters.length) = some 1 := by decide +kernel
theorem dX5_ticks_0 : decode cX5_ticks 0 = .ok (.iconst 0, 1) := by decide +kernel
theorem dX5_ticks_1 : decode cX5_ticks 1 = .ok (.istore_n 2, 1) := by decide +kernel
theorem dX5_ticks_2 : decode cX5_ticks 2 = .ok (.iload_n 2, 1) := by decide +kernel
theorem dX5_ticks_3 : decode cX5_ticks 3 = .ok (.iload_n 1, 1) := by decide +kernel
theorem dX5_ticks_4 : decode cX5_ticks 4 = .ok (.if_icmp .ge 13, 3) := by decide +kernel
theorem dX5_ticks_7 : decode cX5_ticks 7 = .ok (.aload_n 0, 1) := by decide +kernel
theorem dX5_ticks_8 : decode cX5_ticks 8 = .ok (.invokevirtual 134, 3) := by decide +kernel
theorem dX5_ticks_11 : decode cX5_ticks 11 = .ok (.iinc 2 1, 3) := by decide +kernel
theorem dX5_ticks_14 : decode cX5_ticks 14 = .ok (.goto (-12), 3) := by decide +kernel
theorem dX5_ticks_17 : decode cX5_ticks 17 = .ok (.return_, 1) := by decide +kernel
set_option maxHeartbeats 4000000 in
set_option maxRecDepth 100000 in
theorem g_X5_ticks {E : fh_E} {M : fh_M} (C : fh_Cx E M cX5_ticks 3 RX5 (none) rm_X5_ticks) (Hr : fh_Rt E M) (k1 : Nat) (a2 : Int32) (σ3 : fh_S) : fh_Go E M 3 fh_vU 0 [(0, .ref (fh_ad E k1)), (1, .int a2)] [] σ3 (f_X5_ticks k1 a2 σ3) := by
  have hok := fh_cok C
  refine go_ob ?_
  refine go_iconst C (0 : Int32) dX5_ticks_0 rfl ?_
  refine go_istore_n C [(2, .int ((0 : Int32))), (0, .ref (fh_ad E k1)), (1, .int a2)] rfl rfl (by decide) dX5_ticks_1 ?_
  refine go_lv [1, 2, 0] (lv' := [(0, .ref (fh_ad E k1)), (1, .int a2), (2, .int ((0 : Int32)))]) rfl ?_
  refine go_fx (fun (r6 : Int32 → fh_S → Option (Unit × fh_S)) => ∀ (x4 : Int32) (σ5 : fh_S), fh_Go E M 3 fh_vU 2 [(0, .ref (fh_ad E k1)), (1, .int a2), (2, .int x4)] [] σ5 (r6 x4 σ5)) ?_ ?_ fh_fu ((0 : Int32)) σ3
  · intro x4 σ5
    exact go_none
  · intro r6 hr6 x4 σ5
    refine go_iload_n C 2 rfl rfl dX5_ticks_2 ?_
    refine go_iload_n C 1 rfl rfl dX5_ticks_3 ?_
    refine go_icmp_ge (tgt := 17) C dX5_ticks_4 rfl (fun _ => ?_) (fun _ => ?_)
    · exact go_vret C Hr rfl dX5_ticks_17
    · refine go_aload_n C 0 rfl rfl dX5_ticks_7 ?_
      refine go_callVU C (st := []) [] (m_X5_tick E _ hok k1 σ5) (fun _ h => fh_ob_ok h) rfl rfl ⟨q_902, q_904, qs_30, q_6, q_905⟩ pd_X5_tick rfl ⟨⟨Nat.le_of_ble_eq_true rfl, Nat.le_of_ble_eq_true rfl⟩, rfl, rfl⟩ (Nat.le_of_ble_eq_true rfl) dX5_ticks_8 (fun _ σ7 => ?_)
      refine go_iinc C (x4 + 1) 2 [(2, .int (x4 + 1)), (0, .ref (fh_ad E k1)), (1, .int a2)] rfl rfl rfl (by decide) dX5_ticks_11 ?_
      refine go_goto C 2 dX5_ticks_14 rfl ?_
      refine go_lv [1, 2, 0] (lv' := [(0, .ref (fh_ad E k1)), (1, .int a2), (2, .int (x4 + 1))]) rfl ?_
      exact hr6 (x4 + 1) σ7
theorem m_X5_ticks (E : fh_E) (l : Launch) (hok : fh_ok E) (k1 : Nat) (a2 : Int32) (σ3 : fh_S) : fh_Met E l yX5_ticks cX5_ticks 3 (none) rm_X5_ticks fh_vU [.ref (fh_ad E k1), .int a2] σ3 (f_X5_ticks k1 a2 σ3) := fh_met hok (by decide +kernel) (Nat.le_of_ble_eq_true rfl) (fun M _ C Hr => g_X5_ticks C Hr k1 a2 σ3)
def f_X5_go (k1 : Nat) (a2 : Int32) (σ3 : fh_S) : Option (Int32 × fh_S) := fh_ob 5 k1 (fh_cb (f_X5_within a2 ((1 : Int32)) ((100 : Int32)) σ3) fun r5 σ4 => if r5 = 0 then fh_cb (f_X5_finding k1 ((-1000001 : Int32)) σ4) fun r14 σ13 => some (r14, σ13) else (fh_gr 5 k1 0).bind fun k6 => (fh_ld σ4 k6 ((0 : Int32))).bind fun v7 => if (v7 + a2) ≤ ((99999 : Int32)) then fh_cb (f_X5_ticks k1 a2 σ4) fun _ σ8 => (fh_gr 5 k1 0).bind fun k9 => (fh_ld σ8 k9 ((0 : Int32))).bind fun v10 => some (v10, σ8) else fh_cb (f_X5_finding k1 ((-1000005 : Int32)) σ4) fun r12 σ11 => some (r12, σ11))
abbrev rm_X5_go : Room := { frames := 7, cells := 0, slots := 0, locals := 154 }
theorem pd_X5_go : yX5_go.cls ≠ "java/lang/invoke/MethodHandle" ∧ yX5_go.cls ≠ "java/lang/invoke/VarHandle" ∧ (parseMethodDescriptor yX5_go.desc).map (fun d => d.parameters.length) = some 1 := by decide +kernel
theorem dX5_go_0 : decode cX5_go 0 = .ok (.iload_n 1, 1) := by decide +kernel
theorem dX5_go_1 : decode cX5_go 1 = .ok (.iconst 1, 1) := by decide +kernel
theorem dX5_go_2 : decode cX5_go 2 = .ok (.bipush 100, 2) := by decide +kernel
theorem dX5_go_4 : decode cX5_go 4 = .ok (.invokestatic 73, 3) := by decide +kernel
theorem dX5_go_7 : decode cX5_go 7 = .ok (.ifCond .ne 10, 3) := by decide +kernel
theorem dX5_go_10 : decode cX5_go 10 = .ok (.aload_n 0, 1) := by decide +kernel
theorem dX5_go_11 : decode cX5_go 11 = .ok (.ldc 63, 2) := by decide +kernel
theorem dX5_go_13 : decode cX5_go 13 = .ok (.invokevirtual 69, 3) := by decide +kernel
theorem dX5_go_16 : decode cX5_go 16 = .ok (.ireturn, 1) := by decide +kernel
theorem dX5_go_17 : decode cX5_go 17 = .ok (.aload_n 0, 1) := by decide +kernel
theorem dX5_go_18 : decode cX5_go 18 = .ok (.getfield 9, 3) := by decide +kernel
theorem dX5_go_21 : decode cX5_go 21 = .ok (.iconst 0, 1) := by decide +kernel
theorem dX5_go_22 : decode cX5_go 22 = .ok (.iaload, 1) := by decide +kernel
theorem dX5_go_23 : decode cX5_go 23 = .ok (.iload_n 1, 1) := by decide +kernel
theorem dX5_go_24 : decode cX5_go 24 = .ok (.iadd, 1) := by decide +kernel
theorem dX5_go_25 : decode cX5_go 25 = .ok (.ldc 137, 2) := by decide +kernel
theorem dX5_go_27 : decode cX5_go 27 = .ok (.if_icmp .le 10, 3) := by decide +kernel
theorem dX5_go_30 : decode cX5_go 30 = .ok (.aload_n 0, 1) := by decide +kernel
theorem dX5_go_31 : decode cX5_go 31 = .ok (.ldc 138, 2) := by decide +kernel
theorem dX5_go_33 : decode cX5_go 33 = .ok (.invokevirtual 69, 3) := by decide +kernel
theorem dX5_go_36 : decode cX5_go 36 = .ok (.ireturn, 1) := by decide +kernel
theorem dX5_go_37 : decode cX5_go 37 = .ok (.aload_n 0, 1) := by decide +kernel
theorem dX5_go_38 : decode cX5_go 38 = .ok (.iload_n 1, 1) := by decide +kernel
theorem dX5_go_39 : decode cX5_go 39 = .ok (.invokevirtual 139, 3) := by decide +kernel
theorem dX5_go_42 : decode cX5_go 42 = .ok (.aload_n 0, 1) := by decide +kernel
theorem dX5_go_43 : decode cX5_go 43 = .ok (.getfield 9, 3) := by decide +kernel
theorem dX5_go_46 : decode cX5_go 46 = .ok (.iconst 0, 1) := by decide +kernel
theorem dX5_go_47 : decode cX5_go 47 = .ok (.iaload, 1) := by decide +kernel
theorem dX5_go_48 : decode cX5_go 48 = .ok (.ireturn, 1) := by decide +kernel
set_option maxHeartbeats 4000000 in
set_option maxRecDepth 100000 in
theorem g_X5_go {E : fh_E} {M : fh_M} (C : fh_Cx E M cX5_go 2 RX5 ((some FieldType.int)) rm_X5_go) (Hr : fh_Rt E M) (k1 : Nat) (a2 : Int32) (σ3 : fh_S) : fh_Go E M 2 fh_vI 0 [(0, .ref (fh_ad E k1)), (1, .int a2)] [] σ3 (f_X5_go k1 a2 σ3) := by
  have hok := fh_cok C
  refine go_ob ?_
  refine go_iload_n C 1 rfl rfl dX5_go_0 ?_
  refine go_iconst C (1 : Int32) dX5_go_1 rfl ?_
  refine go_bipush C (100 : Int32) dX5_go_2 rfl ?_
  refine go_callSI C (st := []) [.int a2, .int ((1 : Int32)), .int ((100 : Int32))] (m_X5_within E _ hok a2 ((1 : Int32)) ((100 : Int32)) σ3) rfl ⟨q_817, q_818, q_6, q_819⟩ pd_X5_within rfl ⟨⟨Nat.le_of_ble_eq_true rfl, Nat.le_of_ble_eq_true rfl⟩, rfl, rfl⟩ (Nat.le_of_ble_eq_true rfl) dX5_go_4 (fun r5 σ4 => ?_)
  refine go_if_ne (tgt := 17) C dX5_go_7 rfl (fun _ => ?_) (fun _ => ?_)
  · refine go_aload_n C 0 rfl rfl dX5_go_17 ?_
    refine go_gr (ci := 5) (j := 0) C fh_in5 rfl (by decide) rfl q_746 dX5_go_18 (fun k6 => ?_)
    refine go_iconst C (0 : Int32) dX5_go_21 rfl ?_
    refine go_iald C dX5_go_22 (fun v7 => ?_)
    refine go_iload_n C 1 rfl rfl dX5_go_23 ?_
    refine go_iadd C dX5_go_24 ?_
    refine go_ldc C q_896 dX5_go_25 ?_
    refine go_icmp_le (tgt := 37) C dX5_go_27 rfl (fun _ => ?_) (fun _ => ?_)
    · refine go_aload_n C 0 rfl rfl dX5_go_37 ?_
      refine go_iload_n C 1 rfl rfl dX5_go_38 ?_
      refine go_callVU C (st := []) [.int a2] (m_X5_ticks E _ hok k1 a2 σ4) (fun _ h => fh_ob_ok h) rfl rfl ⟨q_898, q_900, qs_29, q_6, q_901⟩ pd_X5_ticks rfl ⟨⟨Nat.le_of_ble_eq_true rfl, Nat.le_of_ble_eq_true rfl⟩, rfl, rfl⟩ (Nat.le_of_ble_eq_true rfl) dX5_go_39 (fun _ σ8 => ?_)
      refine go_aload_n C 0 rfl rfl dX5_go_42 ?_
      refine go_gr (ci := 5) (j := 0) C fh_in5 rfl (by decide) rfl q_746 dX5_go_43 (fun k9 => ?_)
      refine go_iconst C (0 : Int32) dX5_go_46 rfl ?_
      refine go_iald C dX5_go_47 (fun v10 => ?_)
      exact go_iret C Hr rfl dX5_go_48
    · refine go_aload_n C 0 rfl rfl dX5_go_30 ?_
      refine go_ldc C q_897 dX5_go_31 ?_
      refine go_callVI C (st := []) [.int ((-1000005 : Int32))] (m_X5_finding E _ hok k1 ((-1000005 : Int32)) σ4) (fun _ h => fh_ob_ok h) rfl rfl ⟨q_821, q_823, qs_19, q_6, q_824⟩ pd_X5_finding rfl ⟨⟨Nat.le_of_ble_eq_true rfl, Nat.le_of_ble_eq_true rfl⟩, rfl, rfl⟩ (Nat.le_of_ble_eq_true rfl) dX5_go_33 (fun r12 σ11 => ?_)
      exact go_iret C Hr rfl dX5_go_36
  · refine go_aload_n C 0 rfl rfl dX5_go_10 ?_
    refine go_ldc C q_820 dX5_go_11 ?_
    refine go_callVI C (st := []) [.int ((-1000001 : Int32))] (m_X5_finding E _ hok k1 ((-1000001 : Int32)) σ4) (fun _ h => fh_ob_ok h) rfl rfl ⟨q_821, q_823, qs_19, q_6, q_824⟩ pd_X5_finding rfl ⟨⟨Nat.le_of_ble_eq_true rfl, Nat.le_of_ble_eq_true rfl⟩, rfl, rfl⟩ (Nat.le_of_ble_eq_true rfl) dX5_go_13 (fun r14 σ13 => ?_)
    exact go_iret C Hr rfl dX5_go_16
theorem m_X5_go (E : fh_E) (l : Launch) (hok : fh_ok E) (k1 : Nat) (a2 : Int32) (σ3 : fh_S) : fh_Met E l yX5_go cX5_go 2 ((some FieldType.int)) rm_X5_go fh_vI [.ref (fh_ad E k1), .int a2] σ3 (f_X5_go k1 a2 σ3) := fh_met hok (by decide +kernel) (Nat.le_of_ble_eq_true rfl) (fun M _ C Hr => g_X5_go C Hr k1 a2 σ3)
def f_X5_stoppedNow_J30 (r6 : Int32 → Int32 → fh_S → Option (Int32 × fh_S)) (x3 : Int32) (x4 : Int32) : Int32 → fh_S → Option (Int32 × fh_S) := fun x11 σ12 => r6 (x3 ||| x11) (x4 + 1) σ12
def f_X5_stoppedNow_B4 (k1 : Nat) (r6 : Int32 → Int32 → fh_S → Option (Int32 × fh_S)) : Int32 → Int32 → fh_S → Option (Int32 × fh_S) := fun x3 x4 σ5 => (fh_gr 5 k1 0).bind fun k7 => (fh_ld σ5 k7 ((1 : Int32))).bind fun v8 => if v8 ≤ x4 then some (x3, σ5) else fh_cb (f_X5_isStopped k1 x4 σ5) fun r10 σ9 => fh_jn (f_X5_stoppedNow_J30 r6 x3 x4) (fun j13 => if r10 = 0 then j13 ((0 : Int32)) σ9 else j13 (((1 : Int32)) <<< (x4 &&& 31)) σ9)
def f_X5_stoppedNow (k1 : Nat) (σ2 : fh_S) : Option (Int32 × fh_S) := fh_ob 5 k1 (fh_fx (ρ := Int32 → Int32 → fh_S → Option (Int32 × fh_S)) (fun _ _ _ => none) (f_X5_stoppedNow_B4 k1) fh_fu ((0 : Int32)) ((0 : Int32)) σ2)
abbrev rm_X5_stoppedNow : Room := { frames := 3, cells := 0, slots := 0, locals := 64 }
theorem pd_X5_stoppedNow : yX5_stoppedNow.cls ≠ "java/lang/invoke/MethodHandle" ∧ yX5_stoppedNow.cls ≠ "java/lang/invoke/VarHandle" ∧ (parseMethodDescriptor yX5_stoppedNow.desc).map (fun d => d.parameters.length) = some 0 := by decide +kernel
theorem dX5_stoppedNow_0 : decode cX5_stoppedNow 0 = .ok (.iconst 0, 1) := by decide +kernel
theorem dX5_stoppedNow_1 : decode cX5_stoppedNow 1 = .ok (.istore_n 1, 1) := by decide +kernel
theorem dX5_stoppedNow_2 : decode cX5_stoppedNow 2 = .ok (.iconst 0, 1) := by decide +kernel
theorem dX5_stoppedNow_3 : decode cX5_stoppedNow 3 = .ok (.istore_n 2, 1) := by decide +kernel
theorem dX5_stoppedNow_4 : decode cX5_stoppedNow 4 = .ok (.iload_n 2, 1) := by decide +kernel
theorem dX5_stoppedNow_5 : decode cX5_stoppedNow 5 = .ok (.aload_n 0, 1) := by decide +kernel
theorem dX5_stoppedNow_6 : decode cX5_stoppedNow 6 = .ok (.getfield 9, 3) := by decide +kernel
theorem dX5_stoppedNow_9 : decode cX5_stoppedNow 9 = .ok (.iconst 1, 1) := by decide +kernel
theorem dX5_stoppedNow_10 : decode cX5_stoppedNow 10 = .ok (.iaload, 1) := by decide +kernel
theorem dX5_stoppedNow_11 : decode cX5_stoppedNow 11 = .ok (.if_icmp .ge 27, 3) := by decide +kernel
theorem dX5_stoppedNow_14 : decode cX5_stoppedNow 14 = .ok (.iload_n 1, 1) := by decide +kernel
theorem dX5_stoppedNow_15 : decode cX5_stoppedNow 15 = .ok (.aload_n 0, 1) := by decide +kernel
theorem dX5_stoppedNow_16 : decode cX5_stoppedNow 16 = .ok (.iload_n 2, 1) := by decide +kernel
theorem dX5_stoppedNow_17 : decode cX5_stoppedNow 17 = .ok (.invokevirtual 98, 3) := by decide +kernel
theorem dX5_stoppedNow_20 : decode cX5_stoppedNow 20 = .ok (.ifCond .eq 9, 3) := by decide +kernel
theorem dX5_stoppedNow_23 : decode cX5_stoppedNow 23 = .ok (.iconst 1, 1) := by decide +kernel
theorem dX5_stoppedNow_24 : decode cX5_stoppedNow 24 = .ok (.iload_n 2, 1) := by decide +kernel
theorem dX5_stoppedNow_25 : decode cX5_stoppedNow 25 = .ok (.ishl, 1) := by decide +kernel
theorem dX5_stoppedNow_26 : decode cX5_stoppedNow 26 = .ok (.goto 4, 3) := by decide +kernel
theorem dX5_stoppedNow_29 : decode cX5_stoppedNow 29 = .ok (.iconst 0, 1) := by decide +kernel
theorem dX5_stoppedNow_30 : decode cX5_stoppedNow 30 = .ok (.ior, 1) := by decide +kernel
theorem dX5_stoppedNow_31 : decode cX5_stoppedNow 31 = .ok (.istore_n 1, 1) := by decide +kernel
theorem dX5_stoppedNow_32 : decode cX5_stoppedNow 32 = .ok (.iinc 2 1, 3) := by decide +kernel
theorem dX5_stoppedNow_35 : decode cX5_stoppedNow 35 = .ok (.goto (-31), 3) := by decide +kernel
theorem dX5_stoppedNow_38 : decode cX5_stoppedNow 38 = .ok (.iload_n 1, 1) := by decide +kernel
theorem dX5_stoppedNow_39 : decode cX5_stoppedNow 39 = .ok (.ireturn, 1) := by decide +kernel
set_option maxHeartbeats 4000000 in
set_option maxRecDepth 100000 in
theorem g_X5_stoppedNow {E : fh_E} {M : fh_M} (C : fh_Cx E M cX5_stoppedNow 3 RX5 ((some FieldType.int)) rm_X5_stoppedNow) (Hr : fh_Rt E M) (k1 : Nat) (σ2 : fh_S) : fh_Go E M 3 fh_vI 0 [(0, .ref (fh_ad E k1))] [] σ2 (f_X5_stoppedNow k1 σ2) := by
  have hok := fh_cok C
  refine go_ob ?_
  refine go_iconst C (0 : Int32) dX5_stoppedNow_0 rfl ?_
  refine go_istore_n C [(1, .int ((0 : Int32))), (0, .ref (fh_ad E k1))] rfl rfl (by decide) dX5_stoppedNow_1 ?_
  refine go_iconst C (0 : Int32) dX5_stoppedNow_2 rfl ?_
  refine go_istore_n C [(2, .int ((0 : Int32))), (1, .int ((0 : Int32))), (0, .ref (fh_ad E k1))] rfl rfl (by decide) dX5_stoppedNow_3 ?_
  refine go_lv [2, 1, 0] (lv' := [(0, .ref (fh_ad E k1)), (1, .int ((0 : Int32))), (2, .int ((0 : Int32)))]) rfl ?_
  refine go_fx (fun (r6 : Int32 → Int32 → fh_S → Option (Int32 × fh_S)) => ∀ (x3 : Int32) (x4 : Int32) (σ5 : fh_S), fh_Go E M 3 fh_vI 4 [(0, .ref (fh_ad E k1)), (1, .int x3), (2, .int x4)] [] σ5 (r6 x3 x4 σ5)) ?_ ?_ fh_fu ((0 : Int32)) ((0 : Int32)) σ2
  · intro x3 x4 σ5
    exact go_none
  · intro r6 hr6 x3 x4 σ5
    refine go_iload_n C 2 rfl rfl dX5_stoppedNow_4 ?_
    refine go_aload_n C 0 rfl rfl dX5_stoppedNow_5 ?_
    refine go_gr (ci := 5) (j := 0) C fh_in5 rfl (by decide) rfl q_746 dX5_stoppedNow_6 (fun k7 => ?_)
    refine go_iconst C (1 : Int32) dX5_stoppedNow_9 rfl ?_
    refine go_iald C dX5_stoppedNow_10 (fun v8 => ?_)
    refine go_icmp_ge (tgt := 38) C dX5_stoppedNow_11 rfl (fun _ => ?_) (fun _ => ?_)
    · refine go_iload_n C 1 rfl rfl dX5_stoppedNow_38 ?_
      exact go_iret C Hr rfl dX5_stoppedNow_39
    · refine go_iload_n C 1 rfl rfl dX5_stoppedNow_14 ?_
      refine go_aload_n C 0 rfl rfl dX5_stoppedNow_15 ?_
      refine go_iload_n C 2 rfl rfl dX5_stoppedNow_16 ?_
      refine go_callVI C (st := [.int x3]) [.int x4] (m_X5_isStopped E _ hok k1 x4 σ5) (fun _ h => fh_ob_ok h) rfl rfl ⟨q_856, q_858, qs_25, q_6, q_859⟩ pd_X5_isStopped rfl ⟨⟨Nat.le_of_ble_eq_true rfl, Nat.le_of_ble_eq_true rfl⟩, rfl, rfl⟩ (Nat.le_of_ble_eq_true rfl) dX5_stoppedNow_17 (fun r10 σ9 => ?_)
      refine go_jn (fun (j13 : Int32 → fh_S → Option (Int32 × fh_S)) => ∀ (x11 : Int32) (σ12 : fh_S), fh_Go E M 3 fh_vI 30 [(0, .ref (fh_ad E k1)), (2, .int x4)] [.int x11, .int x3] σ12 (j13 x11 σ12)) ?_ (fun j13 hj13 => ?_)
      · intro x11 σ12
        refine go_ior C dX5_stoppedNow_30 ?_
        refine go_istore_n C [(1, .int (x3 ||| x11)), (0, .ref (fh_ad E k1)), (2, .int x4)] rfl rfl (by decide) dX5_stoppedNow_31 ?_
        refine go_iinc C (x4 + 1) 2 [(2, .int (x4 + 1)), (1, .int (x3 ||| x11)), (0, .ref (fh_ad E k1))] rfl rfl rfl (by decide) dX5_stoppedNow_32 ?_
        refine go_goto C 4 dX5_stoppedNow_35 rfl ?_
        refine go_lv [2, 1, 0] (lv' := [(0, .ref (fh_ad E k1)), (1, .int (x3 ||| x11)), (2, .int (x4 + 1))]) rfl ?_
        exact hr6 (x3 ||| x11) (x4 + 1) σ12
      refine go_if_eq (tgt := 29) C dX5_stoppedNow_20 rfl (fun _ => ?_) (fun _ => ?_)
      · refine go_iconst C (0 : Int32) dX5_stoppedNow_29 rfl ?_
        refine go_lv [0, 2] (lv' := [(0, .ref (fh_ad E k1)), (2, .int x4)]) rfl ?_
        exact hj13 ((0 : Int32)) σ9
      · refine go_iconst C (1 : Int32) dX5_stoppedNow_23 rfl ?_
        refine go_iload_n C 2 rfl rfl dX5_stoppedNow_24 ?_
        refine go_ishl C dX5_stoppedNow_25 ?_
        refine go_goto C 30 dX5_stoppedNow_26 rfl ?_
        refine go_lv [0, 2] (lv' := [(0, .ref (fh_ad E k1)), (2, .int x4)]) rfl ?_
        exact hj13 (((1 : Int32)) <<< (x4 &&& 31)) σ9
theorem m_X5_stoppedNow (E : fh_E) (l : Launch) (hok : fh_ok E) (k1 : Nat) (σ2 : fh_S) : fh_Met E l yX5_stoppedNow cX5_stoppedNow 3 ((some FieldType.int)) rm_X5_stoppedNow fh_vI [.ref (fh_ad E k1)] σ2 (f_X5_stoppedNow k1 σ2) := fh_met hok (by decide +kernel) (Nat.le_of_ble_eq_true rfl) (fun M _ C Hr => g_X5_stoppedNow C Hr k1 σ2)
def f_X5_stillNow_J31 (r6 : Int32 → Int32 → fh_S → Option (Int32 × fh_S)) (x3 : Int32) (x4 : Int32) : Int32 → fh_S → Option (Int32 × fh_S) := fun x11 σ12 => r6 (x3 ||| x11) (x4 + 1) σ12
def f_X5_stillNow_B4 (k1 : Nat) (r6 : Int32 → Int32 → fh_S → Option (Int32 × fh_S)) : Int32 → Int32 → fh_S → Option (Int32 × fh_S) := fun x3 x4 σ5 => (fh_gr 5 k1 0).bind fun k7 => (fh_ld σ5 k7 ((1 : Int32))).bind fun v8 => if v8 ≤ x4 then some (x3, σ5) else fh_cb (f_X5_dialIs k1 x4 ((3 : Int32)) σ5) fun r10 σ9 => fh_jn (f_X5_stillNow_J31 r6 x3 x4) (fun j13 => if r10 = 0 then j13 (((1 : Int32)) <<< (x4 &&& 31)) σ9 else j13 ((0 : Int32)) σ9)
def f_X5_stillNow (k1 : Nat) (σ2 : fh_S) : Option (Int32 × fh_S) := fh_ob 5 k1 (fh_fx (ρ := Int32 → Int32 → fh_S → Option (Int32 × fh_S)) (fun _ _ _ => none) (f_X5_stillNow_B4 k1) fh_fu ((0 : Int32)) ((0 : Int32)) σ2)
abbrev rm_X5_stillNow : Room := { frames := 2, cells := 0, slots := 0, locals := 43 }
theorem pd_X5_stillNow : yX5_stillNow.cls ≠ "java/lang/invoke/MethodHandle" ∧ yX5_stillNow.cls ≠ "java/lang/invoke/VarHandle" ∧ (parseMethodDescriptor yX5_stillNow.desc).map (fun d => d.parameters.length) = some 0 := by decide +kernel
theorem dX5_stillNow_0 : decode cX5_stillNow 0 = .ok (.iconst 0, 1) := by decide +kernel
theorem dX5_stillNow_1 : decode cX5_stillNow 1 = .ok (.istore_n 1, 1) := by decide +kernel
theorem dX5_stillNow_2 : decode cX5_stillNow 2 = .ok (.iconst 0, 1) := by decide +kernel
theorem dX5_stillNow_3 : decode cX5_stillNow 3 = .ok (.istore_n 2, 1) := by decide +kernel
theorem dX5_stillNow_4 : decode cX5_stillNow 4 = .ok (.iload_n 2, 1) := by decide +kernel
theorem dX5_stillNow_5 : decode cX5_stillNow 5 = .ok (.aload_n 0, 1) := by decide +kernel
theorem dX5_stillNow_6 : decode cX5_stillNow 6 = .ok (.getfield 9, 3) := by decide +kernel
theorem dX5_stillNow_9 : decode cX5_stillNow 9 = .ok (.iconst 1, 1) := by decide +kernel
theorem dX5_stillNow_10 : decode cX5_stillNow 10 = .ok (.iaload, 1) := by decide +kernel
theorem dX5_stillNow_11 : decode cX5_stillNow 11 = .ok (.if_icmp .ge 28, 3) := by decide +kernel
theorem dX5_stillNow_14 : decode cX5_stillNow 14 = .ok (.iload_n 1, 1) := by decide +kernel
theorem dX5_stillNow_15 : decode cX5_stillNow 15 = .ok (.aload_n 0, 1) := by decide +kernel
theorem dX5_stillNow_16 : decode cX5_stillNow 16 = .ok (.iload_n 2, 1) := by decide +kernel
theorem dX5_stillNow_17 : decode cX5_stillNow 17 = .ok (.iconst 3, 1) := by decide +kernel
theorem dX5_stillNow_18 : decode cX5_stillNow 18 = .ok (.invokevirtual 81, 3) := by decide +kernel
theorem dX5_stillNow_21 : decode cX5_stillNow 21 = .ok (.ifCond .ne 9, 3) := by decide +kernel
theorem dX5_stillNow_24 : decode cX5_stillNow 24 = .ok (.iconst 1, 1) := by decide +kernel
theorem dX5_stillNow_25 : decode cX5_stillNow 25 = .ok (.iload_n 2, 1) := by decide +kernel
theorem dX5_stillNow_26 : decode cX5_stillNow 26 = .ok (.ishl, 1) := by decide +kernel
theorem dX5_stillNow_27 : decode cX5_stillNow 27 = .ok (.goto 4, 3) := by decide +kernel
theorem dX5_stillNow_30 : decode cX5_stillNow 30 = .ok (.iconst 0, 1) := by decide +kernel
theorem dX5_stillNow_31 : decode cX5_stillNow 31 = .ok (.ior, 1) := by decide +kernel
theorem dX5_stillNow_32 : decode cX5_stillNow 32 = .ok (.istore_n 1, 1) := by decide +kernel
theorem dX5_stillNow_33 : decode cX5_stillNow 33 = .ok (.iinc 2 1, 3) := by decide +kernel
theorem dX5_stillNow_36 : decode cX5_stillNow 36 = .ok (.goto (-32), 3) := by decide +kernel
theorem dX5_stillNow_39 : decode cX5_stillNow 39 = .ok (.iload_n 1, 1) := by decide +kernel
theorem dX5_stillNow_40 : decode cX5_stillNow 40 = .ok (.ireturn, 1) := by decide +kernel
set_option maxHeartbeats 4000000 in
set_option maxRecDepth 100000 in
theorem g_X5_stillNow {E : fh_E} {M : fh_M} (C : fh_Cx E M cX5_stillNow 3 RX5 ((some FieldType.int)) rm_X5_stillNow) (Hr : fh_Rt E M) (k1 : Nat) (σ2 : fh_S) : fh_Go E M 3 fh_vI 0 [(0, .ref (fh_ad E k1))] [] σ2 (f_X5_stillNow k1 σ2) := by
  have hok := fh_cok C
  refine go_ob ?_
  refine go_iconst C (0 : Int32) dX5_stillNow_0 rfl ?_
  refine go_istore_n C [(1, .int ((0 : Int32))), (0, .ref (fh_ad E k1))] rfl rfl (by decide) dX5_stillNow_1 ?_
  refine go_iconst C (0 : Int32) dX5_stillNow_2 rfl ?_
  refine go_istore_n C [(2, .int ((0 : Int32))), (1, .int ((0 : Int32))), (0, .ref (fh_ad E k1))] rfl rfl (by decide) dX5_stillNow_3 ?_
  refine go_lv [2, 1, 0] (lv' := [(0, .ref (fh_ad E k1)), (1, .int ((0 : Int32))), (2, .int ((0 : Int32)))]) rfl ?_
  refine go_fx (fun (r6 : Int32 → Int32 → fh_S → Option (Int32 × fh_S)) => ∀ (x3 : Int32) (x4 : Int32) (σ5 : fh_S), fh_Go E M 3 fh_vI 4 [(0, .ref (fh_ad E k1)), (1, .int x3), (2, .int x4)] [] σ5 (r6 x3 x4 σ5)) ?_ ?_ fh_fu ((0 : Int32)) ((0 : Int32)) σ2
  · intro x3 x4 σ5
    exact go_none
  · intro r6 hr6 x3 x4 σ5
    refine go_iload_n C 2 rfl rfl dX5_stillNow_4 ?_
    refine go_aload_n C 0 rfl rfl dX5_stillNow_5 ?_
    refine go_gr (ci := 5) (j := 0) C fh_in5 rfl (by decide) rfl q_746 dX5_stillNow_6 (fun k7 => ?_)
    refine go_iconst C (1 : Int32) dX5_stillNow_9 rfl ?_
    refine go_iald C dX5_stillNow_10 (fun v8 => ?_)
    refine go_icmp_ge (tgt := 39) C dX5_stillNow_11 rfl (fun _ => ?_) (fun _ => ?_)
    · refine go_iload_n C 1 rfl rfl dX5_stillNow_39 ?_
      exact go_iret C Hr rfl dX5_stillNow_40
    · refine go_iload_n C 1 rfl rfl dX5_stillNow_14 ?_
      refine go_aload_n C 0 rfl rfl dX5_stillNow_15 ?_
      refine go_iload_n C 2 rfl rfl dX5_stillNow_16 ?_
      refine go_iconst C (3 : Int32) dX5_stillNow_17 rfl ?_
      refine go_callVI C (st := [.int x3]) [.int x4, .int ((3 : Int32))] (m_X5_dialIs E _ hok k1 x4 ((3 : Int32)) σ5) (fun _ h => fh_ob_ok h) rfl rfl ⟨q_849, q_851, qs_24, q_6, q_852⟩ pd_X5_dialIs rfl ⟨⟨Nat.le_of_ble_eq_true rfl, Nat.le_of_ble_eq_true rfl⟩, rfl, rfl⟩ (Nat.le_of_ble_eq_true rfl) dX5_stillNow_18 (fun r10 σ9 => ?_)
      refine go_jn (fun (j13 : Int32 → fh_S → Option (Int32 × fh_S)) => ∀ (x11 : Int32) (σ12 : fh_S), fh_Go E M 3 fh_vI 31 [(0, .ref (fh_ad E k1)), (2, .int x4)] [.int x11, .int x3] σ12 (j13 x11 σ12)) ?_ (fun j13 hj13 => ?_)
      · intro x11 σ12
        refine go_ior C dX5_stillNow_31 ?_
        refine go_istore_n C [(1, .int (x3 ||| x11)), (0, .ref (fh_ad E k1)), (2, .int x4)] rfl rfl (by decide) dX5_stillNow_32 ?_
        refine go_iinc C (x4 + 1) 2 [(2, .int (x4 + 1)), (1, .int (x3 ||| x11)), (0, .ref (fh_ad E k1))] rfl rfl rfl (by decide) dX5_stillNow_33 ?_
        refine go_goto C 4 dX5_stillNow_36 rfl ?_
        refine go_lv [2, 1, 0] (lv' := [(0, .ref (fh_ad E k1)), (1, .int (x3 ||| x11)), (2, .int (x4 + 1))]) rfl ?_
        exact hr6 (x3 ||| x11) (x4 + 1) σ12
      refine go_if_ne (tgt := 30) C dX5_stillNow_21 rfl (fun _ => ?_) (fun _ => ?_)
      · refine go_iconst C (0 : Int32) dX5_stillNow_30 rfl ?_
        refine go_lv [0, 2] (lv' := [(0, .ref (fh_ad E k1)), (2, .int x4)]) rfl ?_
        exact hj13 ((0 : Int32)) σ9
      · refine go_iconst C (1 : Int32) dX5_stillNow_24 rfl ?_
        refine go_iload_n C 2 rfl rfl dX5_stillNow_25 ?_
        refine go_ishl C dX5_stillNow_26 ?_
        refine go_goto C 31 dX5_stillNow_27 rfl ?_
        refine go_lv [0, 2] (lv' := [(0, .ref (fh_ad E k1)), (2, .int x4)]) rfl ?_
        exact hj13 (((1 : Int32)) <<< (x4 &&& 31)) σ9
theorem m_X5_stillNow (E : fh_E) (l : Launch) (hok : fh_ok E) (k1 : Nat) (σ2 : fh_S) : fh_Met E l yX5_stillNow cX5_stillNow 3 ((some FieldType.int)) rm_X5_stillNow fh_vI [.ref (fh_ad E k1)] σ2 (f_X5_stillNow k1 σ2) := fh_met hok (by decide +kernel) (Nat.le_of_ble_eq_true rfl) (fun M _ C Hr => g_X5_stillNow C Hr k1 σ2)
def f_X5_ownNow_J32 (r6 : Int32 → Int32 → fh_S → Option (Int32 × fh_S)) (x3 : Int32) (x4 : Int32) : Int32 → fh_S → Option (Int32 × fh_S) := fun x11 σ12 => r6 (x3 ||| x11) (x4 + 1) σ12
def f_X5_ownNow_B4 (k1 : Nat) (r6 : Int32 → Int32 → fh_S → Option (Int32 × fh_S)) : Int32 → Int32 → fh_S → Option (Int32 × fh_S) := fun x3 x4 σ5 => (fh_gr 5 k1 0).bind fun k7 => (fh_ld σ5 k7 ((1 : Int32))).bind fun v8 => if v8 ≤ x4 then some (x3, σ5) else fh_cb (f_X5_dialIs k1 x4 ((2 : Int32)) σ5) fun r10 σ9 => fh_jn (f_X5_ownNow_J32 r6 x3 x4) (fun j13 => if r10 = x4 then j13 (((1 : Int32)) <<< (x4 &&& 31)) σ9 else j13 ((0 : Int32)) σ9)
def f_X5_ownNow (k1 : Nat) (σ2 : fh_S) : Option (Int32 × fh_S) := fh_ob 5 k1 (fh_fx (ρ := Int32 → Int32 → fh_S → Option (Int32 × fh_S)) (fun _ _ _ => none) (f_X5_ownNow_B4 k1) fh_fu ((0 : Int32)) ((0 : Int32)) σ2)
abbrev rm_X5_ownNow : Room := { frames := 2, cells := 0, slots := 0, locals := 43 }
theorem pd_X5_ownNow : yX5_ownNow.cls ≠ "java/lang/invoke/MethodHandle" ∧ yX5_ownNow.cls ≠ "java/lang/invoke/VarHandle" ∧ (parseMethodDescriptor yX5_ownNow.desc).map (fun d => d.parameters.length) = some 0 := by decide +kernel
theorem dX5_ownNow_0 : decode cX5_ownNow 0 = .ok (.iconst 0, 1) := by decide +kernel
theorem dX5_ownNow_1 : decode cX5_ownNow 1 = .ok (.istore_n 1, 1) := by decide +kernel
theorem dX5_ownNow_2 : decode cX5_ownNow 2 = .ok (.iconst 0, 1) := by decide +kernel
theorem dX5_ownNow_3 : decode cX5_ownNow 3 = .ok (.istore_n 2, 1) := by decide +kernel
theorem dX5_ownNow_4 : decode cX5_ownNow 4 = .ok (.iload_n 2, 1) := by decide +kernel
theorem dX5_ownNow_5 : decode cX5_ownNow 5 = .ok (.aload_n 0, 1) := by decide +kernel
theorem dX5_ownNow_6 : decode cX5_ownNow 6 = .ok (.getfield 9, 3) := by decide +kernel
theorem dX5_ownNow_9 : decode cX5_ownNow 9 = .ok (.iconst 1, 1) := by decide +kernel
theorem dX5_ownNow_10 : decode cX5_ownNow 10 = .ok (.iaload, 1) := by decide +kernel
theorem dX5_ownNow_11 : decode cX5_ownNow 11 = .ok (.if_icmp .ge 29, 3) := by decide +kernel
theorem dX5_ownNow_14 : decode cX5_ownNow 14 = .ok (.iload_n 1, 1) := by decide +kernel
theorem dX5_ownNow_15 : decode cX5_ownNow 15 = .ok (.aload_n 0, 1) := by decide +kernel
theorem dX5_ownNow_16 : decode cX5_ownNow 16 = .ok (.iload_n 2, 1) := by decide +kernel
theorem dX5_ownNow_17 : decode cX5_ownNow 17 = .ok (.iconst 2, 1) := by decide +kernel
theorem dX5_ownNow_18 : decode cX5_ownNow 18 = .ok (.invokevirtual 81, 3) := by decide +kernel
theorem dX5_ownNow_21 : decode cX5_ownNow 21 = .ok (.iload_n 2, 1) := by decide +kernel
theorem dX5_ownNow_22 : decode cX5_ownNow 22 = .ok (.if_icmp .ne 9, 3) := by decide +kernel
theorem dX5_ownNow_25 : decode cX5_ownNow 25 = .ok (.iconst 1, 1) := by decide +kernel
theorem dX5_ownNow_26 : decode cX5_ownNow 26 = .ok (.iload_n 2, 1) := by decide +kernel
theorem dX5_ownNow_27 : decode cX5_ownNow 27 = .ok (.ishl, 1) := by decide +kernel
theorem dX5_ownNow_28 : decode cX5_ownNow 28 = .ok (.goto 4, 3) := by decide +kernel
theorem dX5_ownNow_31 : decode cX5_ownNow 31 = .ok (.iconst 0, 1) := by decide +kernel
theorem dX5_ownNow_32 : decode cX5_ownNow 32 = .ok (.ior, 1) := by decide +kernel
theorem dX5_ownNow_33 : decode cX5_ownNow 33 = .ok (.istore_n 1, 1) := by decide +kernel
theorem dX5_ownNow_34 : decode cX5_ownNow 34 = .ok (.iinc 2 1, 3) := by decide +kernel
theorem dX5_ownNow_37 : decode cX5_ownNow 37 = .ok (.goto (-33), 3) := by decide +kernel
theorem dX5_ownNow_40 : decode cX5_ownNow 40 = .ok (.iload_n 1, 1) := by decide +kernel
theorem dX5_ownNow_41 : decode cX5_ownNow 41 = .ok (.ireturn, 1) := by decide +kernel
set_option maxHeartbeats 4000000 in
set_option maxRecDepth 100000 in
theorem g_X5_ownNow {E : fh_E} {M : fh_M} (C : fh_Cx E M cX5_ownNow 3 RX5 ((some FieldType.int)) rm_X5_ownNow) (Hr : fh_Rt E M) (k1 : Nat) (σ2 : fh_S) : fh_Go E M 3 fh_vI 0 [(0, .ref (fh_ad E k1))] [] σ2 (f_X5_ownNow k1 σ2) := by
  have hok := fh_cok C
  refine go_ob ?_
  refine go_iconst C (0 : Int32) dX5_ownNow_0 rfl ?_
  refine go_istore_n C [(1, .int ((0 : Int32))), (0, .ref (fh_ad E k1))] rfl rfl (by decide) dX5_ownNow_1 ?_
  refine go_iconst C (0 : Int32) dX5_ownNow_2 rfl ?_
  refine go_istore_n C [(2, .int ((0 : Int32))), (1, .int ((0 : Int32))), (0, .ref (fh_ad E k1))] rfl rfl (by decide) dX5_ownNow_3 ?_
  refine go_lv [2, 1, 0] (lv' := [(0, .ref (fh_ad E k1)), (1, .int ((0 : Int32))), (2, .int ((0 : Int32)))]) rfl ?_
  refine go_fx (fun (r6 : Int32 → Int32 → fh_S → Option (Int32 × fh_S)) => ∀ (x3 : Int32) (x4 : Int32) (σ5 : fh_S), fh_Go E M 3 fh_vI 4 [(0, .ref (fh_ad E k1)), (1, .int x3), (2, .int x4)] [] σ5 (r6 x3 x4 σ5)) ?_ ?_ fh_fu ((0 : Int32)) ((0 : Int32)) σ2
  · intro x3 x4 σ5
    exact go_none
  · intro r6 hr6 x3 x4 σ5
    refine go_iload_n C 2 rfl rfl dX5_ownNow_4 ?_
    refine go_aload_n C 0 rfl rfl dX5_ownNow_5 ?_
    refine go_gr (ci := 5) (j := 0) C fh_in5 rfl (by decide) rfl q_746 dX5_ownNow_6 (fun k7 => ?_)
    refine go_iconst C (1 : Int32) dX5_ownNow_9 rfl ?_
    refine go_iald C dX5_ownNow_10 (fun v8 => ?_)
    refine go_icmp_ge (tgt := 40) C dX5_ownNow_11 rfl (fun _ => ?_) (fun _ => ?_)
    · refine go_iload_n C 1 rfl rfl dX5_ownNow_40 ?_
      exact go_iret C Hr rfl dX5_ownNow_41
    · refine go_iload_n C 1 rfl rfl dX5_ownNow_14 ?_
      refine go_aload_n C 0 rfl rfl dX5_ownNow_15 ?_
      refine go_iload_n C 2 rfl rfl dX5_ownNow_16 ?_
      refine go_iconst C (2 : Int32) dX5_ownNow_17 rfl ?_
      refine go_callVI C (st := [.int x3]) [.int x4, .int ((2 : Int32))] (m_X5_dialIs E _ hok k1 x4 ((2 : Int32)) σ5) (fun _ h => fh_ob_ok h) rfl rfl ⟨q_849, q_851, qs_24, q_6, q_852⟩ pd_X5_dialIs rfl ⟨⟨Nat.le_of_ble_eq_true rfl, Nat.le_of_ble_eq_true rfl⟩, rfl, rfl⟩ (Nat.le_of_ble_eq_true rfl) dX5_ownNow_18 (fun r10 σ9 => ?_)
      refine go_iload_n C 2 rfl rfl dX5_ownNow_21 ?_
      refine go_jn (fun (j13 : Int32 → fh_S → Option (Int32 × fh_S)) => ∀ (x11 : Int32) (σ12 : fh_S), fh_Go E M 3 fh_vI 32 [(0, .ref (fh_ad E k1)), (2, .int x4)] [.int x11, .int x3] σ12 (j13 x11 σ12)) ?_ (fun j13 hj13 => ?_)
      · intro x11 σ12
        refine go_ior C dX5_ownNow_32 ?_
        refine go_istore_n C [(1, .int (x3 ||| x11)), (0, .ref (fh_ad E k1)), (2, .int x4)] rfl rfl (by decide) dX5_ownNow_33 ?_
        refine go_iinc C (x4 + 1) 2 [(2, .int (x4 + 1)), (1, .int (x3 ||| x11)), (0, .ref (fh_ad E k1))] rfl rfl rfl (by decide) dX5_ownNow_34 ?_
        refine go_goto C 4 dX5_ownNow_37 rfl ?_
        refine go_lv [2, 1, 0] (lv' := [(0, .ref (fh_ad E k1)), (1, .int (x3 ||| x11)), (2, .int (x4 + 1))]) rfl ?_
        exact hr6 (x3 ||| x11) (x4 + 1) σ12
      refine go_icmp_ne (tgt := 31) C dX5_ownNow_22 rfl (fun _ => ?_) (fun _ => ?_)
      · refine go_iconst C (0 : Int32) dX5_ownNow_31 rfl ?_
        refine go_lv [0, 2] (lv' := [(0, .ref (fh_ad E k1)), (2, .int x4)]) rfl ?_
        exact hj13 ((0 : Int32)) σ9
      · refine go_iconst C (1 : Int32) dX5_ownNow_25 rfl ?_
        refine go_iload_n C 2 rfl rfl dX5_ownNow_26 ?_
        refine go_ishl C dX5_ownNow_27 ?_
        refine go_goto C 32 dX5_ownNow_28 rfl ?_
        refine go_lv [0, 2] (lv' := [(0, .ref (fh_ad E k1)), (2, .int x4)]) rfl ?_
        exact hj13 (((1 : Int32)) <<< (x4 &&& 31)) σ9
theorem m_X5_ownNow (E : fh_E) (l : Launch) (hok : fh_ok E) (k1 : Nat) (σ2 : fh_S) : fh_Met E l yX5_ownNow cX5_ownNow 3 ((some FieldType.int)) rm_X5_ownNow fh_vI [.ref (fh_ad E k1)] σ2 (f_X5_ownNow k1 σ2) := fh_met hok (by decide +kernel) (Nat.le_of_ble_eq_true rfl) (fun M _ C Hr => g_X5_ownNow C Hr k1 σ2)
def f_X5_sumOf_B4 (k1 : Nat) (a2 : Int32) (r7 : Int32 → Int32 → fh_S → Option (Int32 × fh_S)) : Int32 → Int32 → fh_S → Option (Int32 × fh_S) := fun x4 x5 σ6 => (fh_gr 5 k1 0).bind fun k8 => (fh_ld σ6 k8 ((1 : Int32))).bind fun v9 => if v9 ≤ x5 then some (x4, σ6) else fh_cb (f_X5_dialIs k1 x5 a2 σ6) fun r11 σ10 => r7 (x4 + r11) (x5 + 1) σ10
def f_X5_sumOf (k1 : Nat) (a2 : Int32) (σ3 : fh_S) : Option (Int32 × fh_S) := fh_ob 5 k1 (fh_fx (ρ := Int32 → Int32 → fh_S → Option (Int32 × fh_S)) (fun _ _ _ => none) (f_X5_sumOf_B4 k1 a2) fh_fu ((0 : Int32)) ((0 : Int32)) σ3)
abbrev rm_X5_sumOf : Room := { frames := 2, cells := 0, slots := 0, locals := 43 }
theorem pd_X5_sumOf : yX5_sumOf.cls ≠ "java/lang/invoke/MethodHandle" ∧ yX5_sumOf.cls ≠ "java/lang/invoke/VarHandle" ∧ (parseMethodDescriptor yX5_sumOf.desc).map (fun d => d.parameters.length) = some 1 := by decide +kernel
theorem dX5_sumOf_0 : decode cX5_sumOf 0 = .ok (.iconst 0, 1) := by decide +kernel
theorem dX5_sumOf_1 : decode cX5_sumOf 1 = .ok (.istore_n 2, 1) := by decide +kernel
theorem dX5_sumOf_2 : decode cX5_sumOf 2 = .ok (.iconst 0, 1) := by decide +kernel
theorem dX5_sumOf_3 : decode cX5_sumOf 3 = .ok (.istore_n 3, 1) := by decide +kernel
theorem dX5_sumOf_4 : decode cX5_sumOf 4 = .ok (.iload_n 3, 1) := by decide +kernel
theorem dX5_sumOf_5 : decode cX5_sumOf 5 = .ok (.aload_n 0, 1) := by decide +kernel
theorem dX5_sumOf_6 : decode cX5_sumOf 6 = .ok (.getfield 9, 3) := by decide +kernel
theorem dX5_sumOf_9 : decode cX5_sumOf 9 = .ok (.iconst 1, 1) := by decide +kernel
theorem dX5_sumOf_10 : decode cX5_sumOf 10 = .ok (.iaload, 1) := by decide +kernel
theorem dX5_sumOf_11 : decode cX5_sumOf 11 = .ok (.if_icmp .ge 18, 3) := by decide +kernel
theorem dX5_sumOf_14 : decode cX5_sumOf 14 = .ok (.iload_n 2, 1) := by decide +kernel
theorem dX5_sumOf_15 : decode cX5_sumOf 15 = .ok (.aload_n 0, 1) := by decide +kernel
theorem dX5_sumOf_16 : decode cX5_sumOf 16 = .ok (.iload_n 3, 1) := by decide +kernel
theorem dX5_sumOf_17 : decode cX5_sumOf 17 = .ok (.iload_n 1, 1) := by decide +kernel
theorem dX5_sumOf_18 : decode cX5_sumOf 18 = .ok (.invokevirtual 81, 3) := by decide +kernel
theorem dX5_sumOf_21 : decode cX5_sumOf 21 = .ok (.iadd, 1) := by decide +kernel
theorem dX5_sumOf_22 : decode cX5_sumOf 22 = .ok (.istore_n 2, 1) := by decide +kernel
theorem dX5_sumOf_23 : decode cX5_sumOf 23 = .ok (.iinc 3 1, 3) := by decide +kernel
theorem dX5_sumOf_26 : decode cX5_sumOf 26 = .ok (.goto (-22), 3) := by decide +kernel
theorem dX5_sumOf_29 : decode cX5_sumOf 29 = .ok (.iload_n 2, 1) := by decide +kernel
theorem dX5_sumOf_30 : decode cX5_sumOf 30 = .ok (.ireturn, 1) := by decide +kernel
set_option maxHeartbeats 4000000 in
set_option maxRecDepth 100000 in
theorem g_X5_sumOf {E : fh_E} {M : fh_M} (C : fh_Cx E M cX5_sumOf 4 RX5 ((some FieldType.int)) rm_X5_sumOf) (Hr : fh_Rt E M) (k1 : Nat) (a2 : Int32) (σ3 : fh_S) : fh_Go E M 4 fh_vI 0 [(0, .ref (fh_ad E k1)), (1, .int a2)] [] σ3 (f_X5_sumOf k1 a2 σ3) := by
  have hok := fh_cok C
  refine go_ob ?_
  refine go_iconst C (0 : Int32) dX5_sumOf_0 rfl ?_
  refine go_istore_n C [(2, .int ((0 : Int32))), (0, .ref (fh_ad E k1)), (1, .int a2)] rfl rfl (by decide) dX5_sumOf_1 ?_
  refine go_iconst C (0 : Int32) dX5_sumOf_2 rfl ?_
  refine go_istore_n C [(3, .int ((0 : Int32))), (2, .int ((0 : Int32))), (0, .ref (fh_ad E k1)), (1, .int a2)] rfl rfl (by decide) dX5_sumOf_3 ?_
  refine go_lv [2, 3, 1, 0] (lv' := [(0, .ref (fh_ad E k1)), (1, .int a2), (2, .int ((0 : Int32))), (3, .int ((0 : Int32)))]) rfl ?_
  refine go_fx (fun (r7 : Int32 → Int32 → fh_S → Option (Int32 × fh_S)) => ∀ (x4 : Int32) (x5 : Int32) (σ6 : fh_S), fh_Go E M 4 fh_vI 4 [(0, .ref (fh_ad E k1)), (1, .int a2), (2, .int x4), (3, .int x5)] [] σ6 (r7 x4 x5 σ6)) ?_ ?_ fh_fu ((0 : Int32)) ((0 : Int32)) σ3
  · intro x4 x5 σ6
    exact go_none
  · intro r7 hr7 x4 x5 σ6
    refine go_iload_n C 3 rfl rfl dX5_sumOf_4 ?_
    refine go_aload_n C 0 rfl rfl dX5_sumOf_5 ?_
    refine go_gr (ci := 5) (j := 0) C fh_in5 rfl (by decide) rfl q_746 dX5_sumOf_6 (fun k8 => ?_)
    refine go_iconst C (1 : Int32) dX5_sumOf_9 rfl ?_
    refine go_iald C dX5_sumOf_10 (fun v9 => ?_)
    refine go_icmp_ge (tgt := 29) C dX5_sumOf_11 rfl (fun _ => ?_) (fun _ => ?_)
    · refine go_iload_n C 2 rfl rfl dX5_sumOf_29 ?_
      exact go_iret C Hr rfl dX5_sumOf_30
    · refine go_iload_n C 2 rfl rfl dX5_sumOf_14 ?_
      refine go_aload_n C 0 rfl rfl dX5_sumOf_15 ?_
      refine go_iload_n C 3 rfl rfl dX5_sumOf_16 ?_
      refine go_iload_n C 1 rfl rfl dX5_sumOf_17 ?_
      refine go_callVI C (st := [.int x4]) [.int x5, .int a2] (m_X5_dialIs E _ hok k1 x5 a2 σ6) (fun _ h => fh_ob_ok h) rfl rfl ⟨q_849, q_851, qs_24, q_6, q_852⟩ pd_X5_dialIs rfl ⟨⟨Nat.le_of_ble_eq_true rfl, Nat.le_of_ble_eq_true rfl⟩, rfl, rfl⟩ (Nat.le_of_ble_eq_true rfl) dX5_sumOf_18 (fun r11 σ10 => ?_)
      refine go_iadd C dX5_sumOf_21 ?_
      refine go_istore_n C [(2, .int (x4 + r11)), (0, .ref (fh_ad E k1)), (1, .int a2), (3, .int x5)] rfl rfl (by decide) dX5_sumOf_22 ?_
      refine go_iinc C (x5 + 1) 3 [(3, .int (x5 + 1)), (2, .int (x4 + r11)), (0, .ref (fh_ad E k1)), (1, .int a2)] rfl rfl rfl (by decide) dX5_sumOf_23 ?_
      refine go_goto C 4 dX5_sumOf_26 rfl ?_
      refine go_lv [2, 3, 1, 0] (lv' := [(0, .ref (fh_ad E k1)), (1, .int a2), (2, .int (x4 + r11)), (3, .int (x5 + 1))]) rfl ?_
      exact hr7 (x4 + r11) (x5 + 1) σ10
theorem m_X5_sumOf (E : fh_E) (l : Launch) (hok : fh_ok E) (k1 : Nat) (a2 : Int32) (σ3 : fh_S) : fh_Met E l yX5_sumOf cX5_sumOf 4 ((some FieldType.int)) rm_X5_sumOf fh_vI [.ref (fh_ad E k1), .int a2] σ3 (f_X5_sumOf k1 a2 σ3) := fh_met hok (by decide +kernel) (Nat.le_of_ble_eq_true rfl) (fun M _ C Hr => g_X5_sumOf C Hr k1 a2 σ3)
def f_X5_whoShow_J32 (r7 : Int32 → Int32 → fh_S → Option (Int32 × fh_S)) (x4 : Int32) (x5 : Int32) : Int32 → fh_S → Option (Int32 × fh_S) := fun x12 σ13 => r7 (x4 ||| x12) (x5 + 1) σ13
def f_X5_whoShow_B4 (k1 : Nat) (a2 : Int32) (r7 : Int32 → Int32 → fh_S → Option (Int32 × fh_S)) : Int32 → Int32 → fh_S → Option (Int32 × fh_S) := fun x4 x5 σ6 => (fh_gr 5 k1 0).bind fun k8 => (fh_ld σ6 k8 ((1 : Int32))).bind fun v9 => if v9 ≤ x5 then some (x4, σ6) else fh_cb (f_X5_dialIs k1 x5 ((1 : Int32)) σ6) fun r11 σ10 => fh_jn (f_X5_whoShow_J32 r7 x4 x5) (fun j14 => if r11 = a2 then j14 (((1 : Int32)) <<< (x5 &&& 31)) σ10 else j14 ((0 : Int32)) σ10)
def f_X5_whoShow (k1 : Nat) (a2 : Int32) (σ3 : fh_S) : Option (Int32 × fh_S) := fh_ob 5 k1 (fh_fx (ρ := Int32 → Int32 → fh_S → Option (Int32 × fh_S)) (fun _ _ _ => none) (f_X5_whoShow_B4 k1 a2) fh_fu ((0 : Int32)) ((0 : Int32)) σ3)
abbrev rm_X5_whoShow : Room := { frames := 2, cells := 0, slots := 0, locals := 43 }
theorem pd_X5_whoShow : yX5_whoShow.cls ≠ "java/lang/invoke/MethodHandle" ∧ yX5_whoShow.cls ≠ "java/lang/invoke/VarHandle" ∧ (parseMethodDescriptor yX5_whoShow.desc).map (fun d => d.parameters.length) = some 1 := by decide +kernel
theorem dX5_whoShow_0 : decode cX5_whoShow 0 = .ok (.iconst 0, 1) := by decide +kernel
theorem dX5_whoShow_1 : decode cX5_whoShow 1 = .ok (.istore_n 2, 1) := by decide +kernel
theorem dX5_whoShow_2 : decode cX5_whoShow 2 = .ok (.iconst 0, 1) := by decide +kernel
theorem dX5_whoShow_3 : decode cX5_whoShow 3 = .ok (.istore_n 3, 1) := by decide +kernel
theorem dX5_whoShow_4 : decode cX5_whoShow 4 = .ok (.iload_n 3, 1) := by decide +kernel
theorem dX5_whoShow_5 : decode cX5_whoShow 5 = .ok (.aload_n 0, 1) := by decide +kernel
theorem dX5_whoShow_6 : decode cX5_whoShow 6 = .ok (.getfield 9, 3) := by decide +kernel
theorem dX5_whoShow_9 : decode cX5_whoShow 9 = .ok (.iconst 1, 1) := by decide +kernel
theorem dX5_whoShow_10 : decode cX5_whoShow 10 = .ok (.iaload, 1) := by decide +kernel
theorem dX5_whoShow_11 : decode cX5_whoShow 11 = .ok (.if_icmp .ge 29, 3) := by decide +kernel
theorem dX5_whoShow_14 : decode cX5_whoShow 14 = .ok (.iload_n 2, 1) := by decide +kernel
theorem dX5_whoShow_15 : decode cX5_whoShow 15 = .ok (.aload_n 0, 1) := by decide +kernel
theorem dX5_whoShow_16 : decode cX5_whoShow 16 = .ok (.iload_n 3, 1) := by decide +kernel
theorem dX5_whoShow_17 : decode cX5_whoShow 17 = .ok (.iconst 1, 1) := by decide +kernel
theorem dX5_whoShow_18 : decode cX5_whoShow 18 = .ok (.invokevirtual 81, 3) := by decide +kernel
theorem dX5_whoShow_21 : decode cX5_whoShow 21 = .ok (.iload_n 1, 1) := by decide +kernel
theorem dX5_whoShow_22 : decode cX5_whoShow 22 = .ok (.if_icmp .ne 9, 3) := by decide +kernel
theorem dX5_whoShow_25 : decode cX5_whoShow 25 = .ok (.iconst 1, 1) := by decide +kernel
theorem dX5_whoShow_26 : decode cX5_whoShow 26 = .ok (.iload_n 3, 1) := by decide +kernel
theorem dX5_whoShow_27 : decode cX5_whoShow 27 = .ok (.ishl, 1) := by decide +kernel
theorem dX5_whoShow_28 : decode cX5_whoShow 28 = .ok (.goto 4, 3) := by decide +kernel
theorem dX5_whoShow_31 : decode cX5_whoShow 31 = .ok (.iconst 0, 1) := by decide +kernel
theorem dX5_whoShow_32 : decode cX5_whoShow 32 = .ok (.ior, 1) := by decide +kernel
theorem dX5_whoShow_33 : decode cX5_whoShow 33 = .ok (.istore_n 2, 1) := by decide +kernel
theorem dX5_whoShow_34 : decode cX5_whoShow 34 = .ok (.iinc 3 1, 3) := by decide +kernel
theorem dX5_whoShow_37 : decode cX5_whoShow 37 = .ok (.goto (-33), 3) := by decide +kernel
theorem dX5_whoShow_40 : decode cX5_whoShow 40 = .ok (.iload_n 2, 1) := by decide +kernel
theorem dX5_whoShow_41 : decode cX5_whoShow 41 = .ok (.ireturn, 1) := by decide +kernel
set_option maxHeartbeats 4000000 in
set_option maxRecDepth 100000 in
theorem g_X5_whoShow {E : fh_E} {M : fh_M} (C : fh_Cx E M cX5_whoShow 4 RX5 ((some FieldType.int)) rm_X5_whoShow) (Hr : fh_Rt E M) (k1 : Nat) (a2 : Int32) (σ3 : fh_S) : fh_Go E M 4 fh_vI 0 [(0, .ref (fh_ad E k1)), (1, .int a2)] [] σ3 (f_X5_whoShow k1 a2 σ3) := by
  have hok := fh_cok C
  refine go_ob ?_
  refine go_iconst C (0 : Int32) dX5_whoShow_0 rfl ?_
  refine go_istore_n C [(2, .int ((0 : Int32))), (0, .ref (fh_ad E k1)), (1, .int a2)] rfl rfl (by decide) dX5_whoShow_1 ?_
  refine go_iconst C (0 : Int32) dX5_whoShow_2 rfl ?_
  refine go_istore_n C [(3, .int ((0 : Int32))), (2, .int ((0 : Int32))), (0, .ref (fh_ad E k1)), (1, .int a2)] rfl rfl (by decide) dX5_whoShow_3 ?_
  refine go_lv [2, 3, 1, 0] (lv' := [(0, .ref (fh_ad E k1)), (1, .int a2), (2, .int ((0 : Int32))), (3, .int ((0 : Int32)))]) rfl ?_
  refine go_fx (fun (r7 : Int32 → Int32 → fh_S → Option (Int32 × fh_S)) => ∀ (x4 : Int32) (x5 : Int32) (σ6 : fh_S), fh_Go E M 4 fh_vI 4 [(0, .ref (fh_ad E k1)), (1, .int a2), (2, .int x4), (3, .int x5)] [] σ6 (r7 x4 x5 σ6)) ?_ ?_ fh_fu ((0 : Int32)) ((0 : Int32)) σ3
  · intro x4 x5 σ6
    exact go_none
  · intro r7 hr7 x4 x5 σ6
    refine go_iload_n C 3 rfl rfl dX5_whoShow_4 ?_
    refine go_aload_n C 0 rfl rfl dX5_whoShow_5 ?_
    refine go_gr (ci := 5) (j := 0) C fh_in5 rfl (by decide) rfl q_746 dX5_whoShow_6 (fun k8 => ?_)
    refine go_iconst C (1 : Int32) dX5_whoShow_9 rfl ?_
    refine go_iald C dX5_whoShow_10 (fun v9 => ?_)
    refine go_icmp_ge (tgt := 40) C dX5_whoShow_11 rfl (fun _ => ?_) (fun _ => ?_)
    · refine go_iload_n C 2 rfl rfl dX5_whoShow_40 ?_
      exact go_iret C Hr rfl dX5_whoShow_41
    · refine go_iload_n C 2 rfl rfl dX5_whoShow_14 ?_
      refine go_aload_n C 0 rfl rfl dX5_whoShow_15 ?_
      refine go_iload_n C 3 rfl rfl dX5_whoShow_16 ?_
      refine go_iconst C (1 : Int32) dX5_whoShow_17 rfl ?_
      refine go_callVI C (st := [.int x4]) [.int x5, .int ((1 : Int32))] (m_X5_dialIs E _ hok k1 x5 ((1 : Int32)) σ6) (fun _ h => fh_ob_ok h) rfl rfl ⟨q_849, q_851, qs_24, q_6, q_852⟩ pd_X5_dialIs rfl ⟨⟨Nat.le_of_ble_eq_true rfl, Nat.le_of_ble_eq_true rfl⟩, rfl, rfl⟩ (Nat.le_of_ble_eq_true rfl) dX5_whoShow_18 (fun r11 σ10 => ?_)
      refine go_iload_n C 1 rfl rfl dX5_whoShow_21 ?_
      refine go_jn (fun (j14 : Int32 → fh_S → Option (Int32 × fh_S)) => ∀ (x12 : Int32) (σ13 : fh_S), fh_Go E M 4 fh_vI 32 [(0, .ref (fh_ad E k1)), (1, .int a2), (3, .int x5)] [.int x12, .int x4] σ13 (j14 x12 σ13)) ?_ (fun j14 hj14 => ?_)
      · intro x12 σ13
        refine go_ior C dX5_whoShow_32 ?_
        refine go_istore_n C [(2, .int (x4 ||| x12)), (0, .ref (fh_ad E k1)), (1, .int a2), (3, .int x5)] rfl rfl (by decide) dX5_whoShow_33 ?_
        refine go_iinc C (x5 + 1) 3 [(3, .int (x5 + 1)), (2, .int (x4 ||| x12)), (0, .ref (fh_ad E k1)), (1, .int a2)] rfl rfl rfl (by decide) dX5_whoShow_34 ?_
        refine go_goto C 4 dX5_whoShow_37 rfl ?_
        refine go_lv [2, 3, 1, 0] (lv' := [(0, .ref (fh_ad E k1)), (1, .int a2), (2, .int (x4 ||| x12)), (3, .int (x5 + 1))]) rfl ?_
        exact hr7 (x4 ||| x12) (x5 + 1) σ13
      refine go_icmp_ne (tgt := 31) C dX5_whoShow_22 rfl (fun _ => ?_) (fun _ => ?_)
      · refine go_iconst C (0 : Int32) dX5_whoShow_31 rfl ?_
        refine go_lv [0, 1, 3] (lv' := [(0, .ref (fh_ad E k1)), (1, .int a2), (3, .int x5)]) rfl ?_
        exact hj14 ((0 : Int32)) σ10
      · refine go_iconst C (1 : Int32) dX5_whoShow_25 rfl ?_
        refine go_iload_n C 3 rfl rfl dX5_whoShow_26 ?_
        refine go_ishl C dX5_whoShow_27 ?_
        refine go_goto C 32 dX5_whoShow_28 rfl ?_
        refine go_lv [0, 1, 3] (lv' := [(0, .ref (fh_ad E k1)), (1, .int a2), (3, .int x5)]) rfl ?_
        exact hj14 (((1 : Int32)) <<< (x5 &&& 31)) σ10
theorem m_X5_whoShow (E : fh_E) (l : Launch) (hok : fh_ok E) (k1 : Nat) (a2 : Int32) (σ3 : fh_S) : fh_Met E l yX5_whoShow cX5_whoShow 4 ((some FieldType.int)) rm_X5_whoShow fh_vI [.ref (fh_ad E k1), .int a2] σ3 (f_X5_whoShow k1 a2 σ3) := fh_met hok (by decide +kernel) (Nat.le_of_ble_eq_true rfl) (fun M _ C Hr => g_X5_whoShow C Hr k1 a2 σ3)
def f_X5_manyShow (k1 : Nat) (a2 : Int32) (σ3 : fh_S) : Option (Int32 × fh_S) := fh_ob 5 k1 (fh_cb (f_X5_whoShow k1 a2 σ3) fun r5 σ4 => fh_cb (f_X5_bits r5 σ4) fun r7 σ6 => some (r7, σ6))
abbrev rm_X5_manyShow : Room := { frames := 3, cells := 0, slots := 0, locals := 66 }
theorem pd_X5_manyShow : yX5_manyShow.cls ≠ "java/lang/invoke/MethodHandle" ∧ yX5_manyShow.cls ≠ "java/lang/invoke/VarHandle" ∧ (parseMethodDescriptor yX5_manyShow.desc).map (fun d => d.parameters.length) = some 1 := by decide +kernel
theorem dX5_manyShow_0 : decode cX5_manyShow 0 = .ok (.aload_n 0, 1) := by decide +kernel
theorem dX5_manyShow_1 : decode cX5_manyShow 1 = .ok (.iload_n 1, 1) := by decide +kernel
theorem dX5_manyShow_2 : decode cX5_manyShow 2 = .ok (.invokevirtual 143, 3) := by decide +kernel
theorem dX5_manyShow_5 : decode cX5_manyShow 5 = .ok (.invokestatic 146, 3) := by decide +kernel
theorem dX5_manyShow_8 : decode cX5_manyShow 8 = .ok (.ireturn, 1) := by decide +kernel
set_option maxHeartbeats 4000000 in
set_option maxRecDepth 100000 in
theorem g_X5_manyShow {E : fh_E} {M : fh_M} (C : fh_Cx E M cX5_manyShow 2 RX5 ((some FieldType.int)) rm_X5_manyShow) (Hr : fh_Rt E M) (k1 : Nat) (a2 : Int32) (σ3 : fh_S) : fh_Go E M 2 fh_vI 0 [(0, .ref (fh_ad E k1)), (1, .int a2)] [] σ3 (f_X5_manyShow k1 a2 σ3) := by
  have hok := fh_cok C
  refine go_ob ?_
  refine go_aload_n C 0 rfl rfl dX5_manyShow_0 ?_
  refine go_iload_n C 1 rfl rfl dX5_manyShow_1 ?_
  refine go_callVI C (st := []) [.int a2] (m_X5_whoShow E _ hok k1 a2 σ3) (fun _ h => fh_ob_ok h) rfl rfl ⟨q_930, q_932, qs_36, q_6, q_933⟩ pd_X5_whoShow rfl ⟨⟨Nat.le_of_ble_eq_true rfl, Nat.le_of_ble_eq_true rfl⟩, rfl, rfl⟩ (Nat.le_of_ble_eq_true rfl) dX5_manyShow_2 (fun r5 σ4 => ?_)
  refine go_callSI C (st := []) [.int r5] (m_X5_bits E _ hok r5 σ4) rfl ⟨q_934, q_935, q_6, q_936⟩ pd_X5_bits rfl ⟨⟨Nat.le_of_ble_eq_true rfl, Nat.le_of_ble_eq_true rfl⟩, rfl, rfl⟩ (Nat.le_of_ble_eq_true rfl) dX5_manyShow_5 (fun r7 σ6 => ?_)
  exact go_iret C Hr rfl dX5_manyShow_8
theorem m_X5_manyShow (E : fh_E) (l : Launch) (hok : fh_ok E) (k1 : Nat) (a2 : Int32) (σ3 : fh_S) : fh_Met E l yX5_manyShow cX5_manyShow 2 ((some FieldType.int)) rm_X5_manyShow fh_vI [.ref (fh_ad E k1), .int a2] σ3 (f_X5_manyShow k1 a2 σ3) := fh_met hok (by decide +kernel) (Nat.le_of_ble_eq_true rfl) (fun M _ C Hr => g_X5_manyShow C Hr k1 a2 σ3)
def f_X5_now (k1 : Nat) (a2 : Int32) (σ3 : fh_S) : Option (Int32 × fh_S) := fh_ob 5 k1 (if a2 = (0 : Int32) then (fh_gr 5 k1 0).bind fun k4 => (fh_ld σ3 k4 ((0 : Int32))).bind fun v5 => some (v5, σ3) else if a2 = (1 : Int32) then fh_cb (f_X5_stoppedNow k1 σ3) fun r8 σ7 => some (r8, σ7) else if a2 = (2 : Int32) then fh_cb (f_X5_stillNow k1 σ3) fun r11 σ10 => some (r11, σ10) else if a2 = (3 : Int32) then fh_cb (f_X5_ownNow k1 σ3) fun r14 σ13 => some (r14, σ13) else if a2 = (4 : Int32) then fh_cb (f_X5_sumOf k1 ((3 : Int32)) σ3) fun r17 σ16 => some (r17, σ16) else if a2 = (5 : Int32) then fh_cb (f_X5_dialIs k1 ((0 : Int32)) ((1 : Int32)) σ3) fun r20 σ19 => fh_cb (f_X5_manyShow k1 r20 σ19) fun r22 σ21 => (fh_gr 5 k1 0).bind fun k23 => (fh_ld σ21 k23 ((1 : Int32))).bind fun v24 => if r22 = v24 then some ((1 : Int32), σ21) else some ((0 : Int32), σ21) else fh_cb (f_X5_finding k1 ((-1000001 : Int32)) σ3) fun r27 σ26 => some (r27, σ26))
abbrev rm_X5_now : Room := { frames := 4, cells := 0, slots := 0, locals := 87 }
theorem pd_X5_now : yX5_now.cls ≠ "java/lang/invoke/MethodHandle" ∧ yX5_now.cls ≠ "java/lang/invoke/VarHandle" ∧ (parseMethodDescriptor yX5_now.desc).map (fun d => d.parameters.length) = some 1 := by decide +kernel
theorem dX5_now_0 : decode cX5_now 0 = .ok (.iload_n 1, 1) := by decide +kernel
theorem dX5_now_1 : decode cX5_now 1 = .ok (.tableswitch 92 0 5 #[39, 46, 51, 56, 61, 67], 39) := by decide +kernel
theorem dX5_now_40 : decode cX5_now 40 = .ok (.aload_n 0, 1) := by decide +kernel
theorem dX5_now_41 : decode cX5_now 41 = .ok (.getfield 9, 3) := by decide +kernel
theorem dX5_now_44 : decode cX5_now 44 = .ok (.iconst 0, 1) := by decide +kernel
theorem dX5_now_45 : decode cX5_now 45 = .ok (.iaload, 1) := by decide +kernel
theorem dX5_now_46 : decode cX5_now 46 = .ok (.ireturn, 1) := by decide +kernel
theorem dX5_now_47 : decode cX5_now 47 = .ok (.aload_n 0, 1) := by decide +kernel
theorem dX5_now_48 : decode cX5_now 48 = .ok (.invokevirtual 149, 3) := by decide +kernel
theorem dX5_now_51 : decode cX5_now 51 = .ok (.ireturn, 1) := by decide +kernel
theorem dX5_now_52 : decode cX5_now 52 = .ok (.aload_n 0, 1) := by decide +kernel
theorem dX5_now_53 : decode cX5_now 53 = .ok (.invokevirtual 153, 3) := by decide +kernel
theorem dX5_now_56 : decode cX5_now 56 = .ok (.ireturn, 1) := by decide +kernel
theorem dX5_now_57 : decode cX5_now 57 = .ok (.aload_n 0, 1) := by decide +kernel
theorem dX5_now_58 : decode cX5_now 58 = .ok (.invokevirtual 156, 3) := by decide +kernel
theorem dX5_now_61 : decode cX5_now 61 = .ok (.ireturn, 1) := by decide +kernel
theorem dX5_now_62 : decode cX5_now 62 = .ok (.aload_n 0, 1) := by decide +kernel
theorem dX5_now_63 : decode cX5_now 63 = .ok (.iconst 3, 1) := by decide +kernel
theorem dX5_now_64 : decode cX5_now 64 = .ok (.invokevirtual 159, 3) := by decide +kernel
theorem dX5_now_67 : decode cX5_now 67 = .ok (.ireturn, 1) := by decide +kernel
theorem dX5_now_68 : decode cX5_now 68 = .ok (.aload_n 0, 1) := by decide +kernel
theorem dX5_now_69 : decode cX5_now 69 = .ok (.aload_n 0, 1) := by decide +kernel
theorem dX5_now_70 : decode cX5_now 70 = .ok (.iconst 0, 1) := by decide +kernel
theorem dX5_now_71 : decode cX5_now 71 = .ok (.iconst 1, 1) := by decide +kernel
theorem dX5_now_72 : decode cX5_now 72 = .ok (.invokevirtual 81, 3) := by decide +kernel
theorem dX5_now_75 : decode cX5_now 75 = .ok (.invokevirtual 162, 3) := by decide +kernel
theorem dX5_now_78 : decode cX5_now 78 = .ok (.aload_n 0, 1) := by decide +kernel
theorem dX5_now_79 : decode cX5_now 79 = .ok (.getfield 9, 3) := by decide +kernel
theorem dX5_now_82 : decode cX5_now 82 = .ok (.iconst 1, 1) := by decide +kernel
theorem dX5_now_83 : decode cX5_now 83 = .ok (.iaload, 1) := by decide +kernel
theorem dX5_now_84 : decode cX5_now 84 = .ok (.if_icmp .ne 7, 3) := by decide +kernel
theorem dX5_now_87 : decode cX5_now 87 = .ok (.iconst 1, 1) := by decide +kernel
theorem dX5_now_88 : decode cX5_now 88 = .ok (.goto 4, 3) := by decide +kernel
theorem dX5_now_91 : decode cX5_now 91 = .ok (.iconst 0, 1) := by decide +kernel
theorem dX5_now_92 : decode cX5_now 92 = .ok (.ireturn, 1) := by decide +kernel
theorem dX5_now_93 : decode cX5_now 93 = .ok (.aload_n 0, 1) := by decide +kernel
theorem dX5_now_94 : decode cX5_now 94 = .ok (.ldc 63, 2) := by decide +kernel
theorem dX5_now_96 : decode cX5_now 96 = .ok (.invokevirtual 69, 3) := by decide +kernel
theorem dX5_now_99 : decode cX5_now 99 = .ok (.ireturn, 1) := by decide +kernel
set_option maxHeartbeats 4000000 in
set_option maxRecDepth 100000 in
theorem g_X5_now {E : fh_E} {M : fh_M} (C : fh_Cx E M cX5_now 2 RX5 ((some FieldType.int)) rm_X5_now) (Hr : fh_Rt E M) (k1 : Nat) (a2 : Int32) (σ3 : fh_S) : fh_Go E M 2 fh_vI 0 [(0, .ref (fh_ad E k1)), (1, .int a2)] [] σ3 (f_X5_now k1 a2 σ3) := by
  have hok := fh_cok C
  refine go_ob ?_
  refine go_iload_n C 1 rfl rfl dX5_now_0 ?_
  refine go_sw C (0 : Int32) 40 dX5_now_1 (by decide) (by decide) rfl rfl ?_ (fun hn6 => ?_)
  · refine go_aload_n C 0 rfl rfl dX5_now_40 ?_
    refine go_gr (ci := 5) (j := 0) C fh_in5 rfl (by decide) rfl q_746 dX5_now_41 (fun k4 => ?_)
    refine go_iconst C (0 : Int32) dX5_now_44 rfl ?_
    refine go_iald C dX5_now_45 (fun v5 => ?_)
    exact go_iret C Hr rfl dX5_now_46
  refine go_sw C (1 : Int32) 47 dX5_now_1 (by decide) (by decide) rfl rfl ?_ (fun hn9 => ?_)
  · refine go_aload_n C 0 rfl rfl dX5_now_47 ?_
    refine go_callVI C (st := []) [] (m_X5_stoppedNow E _ hok k1 σ3) (fun _ h => fh_ob_ok h) rfl rfl ⟨q_910, q_912, qs_31, q_6, q_913⟩ pd_X5_stoppedNow rfl ⟨⟨Nat.le_of_ble_eq_true rfl, Nat.le_of_ble_eq_true rfl⟩, rfl, rfl⟩ (Nat.le_of_ble_eq_true rfl) dX5_now_48 (fun r8 σ7 => ?_)
    exact go_iret C Hr rfl dX5_now_51
  refine go_sw C (2 : Int32) 52 dX5_now_1 (by decide) (by decide) rfl rfl ?_ (fun hn12 => ?_)
  · refine go_aload_n C 0 rfl rfl dX5_now_52 ?_
    refine go_callVI C (st := []) [] (m_X5_stillNow E _ hok k1 σ3) (fun _ h => fh_ob_ok h) rfl rfl ⟨q_914, q_916, qs_32, q_6, q_917⟩ pd_X5_stillNow rfl ⟨⟨Nat.le_of_ble_eq_true rfl, Nat.le_of_ble_eq_true rfl⟩, rfl, rfl⟩ (Nat.le_of_ble_eq_true rfl) dX5_now_53 (fun r11 σ10 => ?_)
    exact go_iret C Hr rfl dX5_now_56
  refine go_sw C (3 : Int32) 57 dX5_now_1 (by decide) (by decide) rfl rfl ?_ (fun hn15 => ?_)
  · refine go_aload_n C 0 rfl rfl dX5_now_57 ?_
    refine go_callVI C (st := []) [] (m_X5_ownNow E _ hok k1 σ3) (fun _ h => fh_ob_ok h) rfl rfl ⟨q_918, q_920, qs_33, q_6, q_921⟩ pd_X5_ownNow rfl ⟨⟨Nat.le_of_ble_eq_true rfl, Nat.le_of_ble_eq_true rfl⟩, rfl, rfl⟩ (Nat.le_of_ble_eq_true rfl) dX5_now_58 (fun r14 σ13 => ?_)
    exact go_iret C Hr rfl dX5_now_61
  refine go_sw C (4 : Int32) 62 dX5_now_1 (by decide) (by decide) rfl rfl ?_ (fun hn18 => ?_)
  · refine go_aload_n C 0 rfl rfl dX5_now_62 ?_
    refine go_iconst C (3 : Int32) dX5_now_63 rfl ?_
    refine go_callVI C (st := []) [.int ((3 : Int32))] (m_X5_sumOf E _ hok k1 ((3 : Int32)) σ3) (fun _ h => fh_ob_ok h) rfl rfl ⟨q_922, q_924, qs_34, q_6, q_925⟩ pd_X5_sumOf rfl ⟨⟨Nat.le_of_ble_eq_true rfl, Nat.le_of_ble_eq_true rfl⟩, rfl, rfl⟩ (Nat.le_of_ble_eq_true rfl) dX5_now_64 (fun r17 σ16 => ?_)
    exact go_iret C Hr rfl dX5_now_67
  refine go_sw C (5 : Int32) 68 dX5_now_1 (by decide) (by decide) rfl rfl ?_ (fun hn25 => ?_)
  · refine go_aload_n C 0 rfl rfl dX5_now_68 ?_
    refine go_aload_n C 0 rfl rfl dX5_now_69 ?_
    refine go_iconst C (0 : Int32) dX5_now_70 rfl ?_
    refine go_iconst C (1 : Int32) dX5_now_71 rfl ?_
    refine go_callVI C (st := [.ref (fh_ad E k1)]) [.int ((0 : Int32)), .int ((1 : Int32))] (m_X5_dialIs E _ hok k1 ((0 : Int32)) ((1 : Int32)) σ3) (fun _ h => fh_ob_ok h) rfl rfl ⟨q_849, q_851, qs_24, q_6, q_852⟩ pd_X5_dialIs rfl ⟨⟨Nat.le_of_ble_eq_true rfl, Nat.le_of_ble_eq_true rfl⟩, rfl, rfl⟩ (Nat.le_of_ble_eq_true rfl) dX5_now_72 (fun r20 σ19 => ?_)
    refine go_callVI C (st := []) [.int r20] (m_X5_manyShow E _ hok k1 r20 σ19) (fun _ h => fh_ob_ok h) rfl rfl ⟨q_926, q_928, qs_35, q_6, q_929⟩ pd_X5_manyShow rfl ⟨⟨Nat.le_of_ble_eq_true rfl, Nat.le_of_ble_eq_true rfl⟩, rfl, rfl⟩ (Nat.le_of_ble_eq_true rfl) dX5_now_75 (fun r22 σ21 => ?_)
    refine go_aload_n C 0 rfl rfl dX5_now_78 ?_
    refine go_gr (ci := 5) (j := 0) C fh_in5 rfl (by decide) rfl q_746 dX5_now_79 (fun k23 => ?_)
    refine go_iconst C (1 : Int32) dX5_now_82 rfl ?_
    refine go_iald C dX5_now_83 (fun v24 => ?_)
    refine go_icmp_ne (tgt := 91) C dX5_now_84 rfl (fun _ => ?_) (fun _ => ?_)
    · refine go_iconst C (0 : Int32) dX5_now_91 rfl ?_
      exact go_iret C Hr rfl dX5_now_92
    · refine go_iconst C (1 : Int32) dX5_now_87 rfl ?_
      refine go_goto C 92 dX5_now_88 rfl ?_
      exact go_iret C Hr rfl dX5_now_92
  refine go_swd C 93 dX5_now_1 (by have hh0 := fh_ne (z := 0) hn6 (by decide); have hh1 := fh_ne (z := 1) hn9 (by decide); have hh2 := fh_ne (z := 2) hn12 (by decide); have hh3 := fh_ne (z := 3) hn15 (by decide); have hh4 := fh_ne (z := 4) hn18 (by decide); have hh5 := fh_ne (z := 5) hn25 (by decide); omega) rfl ?_
  refine go_aload_n C 0 rfl rfl dX5_now_93 ?_
  refine go_ldc C q_820 dX5_now_94 ?_
  refine go_callVI C (st := []) [.int ((-1000001 : Int32))] (m_X5_finding E _ hok k1 ((-1000001 : Int32)) σ3) (fun _ h => fh_ob_ok h) rfl rfl ⟨q_821, q_823, qs_19, q_6, q_824⟩ pd_X5_finding rfl ⟨⟨Nat.le_of_ble_eq_true rfl, Nat.le_of_ble_eq_true rfl⟩, rfl, rfl⟩ (Nat.le_of_ble_eq_true rfl) dX5_now_96 (fun r27 σ26 => ?_)
  exact go_iret C Hr rfl dX5_now_99
theorem m_X5_now (E : fh_E) (l : Launch) (hok : fh_ok E) (k1 : Nat) (a2 : Int32) (σ3 : fh_S) : fh_Met E l yX5_now cX5_now 2 ((some FieldType.int)) rm_X5_now fh_vI [.ref (fh_ad E k1), .int a2] σ3 (f_X5_now k1 a2 σ3) := fh_met hok (by decide +kernel) (Nat.le_of_ble_eq_true rfl) (fun M _ C Hr => g_X5_now C Hr k1 a2 σ3)
def f_X5_wayOf_B9 (k1 : Nat) (r9 : Int32 → Int32 → fh_S → Option (Int32 × fh_S)) : Int32 → Int32 → fh_S → Option (Int32 × fh_S) := fun x6 x7 σ8 => fh_cb (f_X5_has x6 x7 σ8) fun r11 σ10 => if r11 = 0 then fh_cb (f_X5_dialIs k1 x7 ((2 : Int32)) σ10) fun r13 σ12 => r9 (x6 ||| (((1 : Int32)) <<< (x7 &&& 31))) r13 σ12 else some (x6, σ10)
def f_X5_wayOf (k1 : Nat) (a2 : Int32) (σ3 : fh_S) : Option (Int32 × fh_S) := fh_ob 5 k1 (fh_cb (f_X5_dialIs k1 a2 ((2 : Int32)) σ3) fun r5 σ4 => fh_fx (ρ := Int32 → Int32 → fh_S → Option (Int32 × fh_S)) (fun _ _ _ => none) (f_X5_wayOf_B9 k1) fh_fu ((0 : Int32)) r5 σ4)
abbrev rm_X5_wayOf : Room := { frames := 2, cells := 0, slots := 0, locals := 43 }
theorem pd_X5_wayOf : yX5_wayOf.cls ≠ "java/lang/invoke/MethodHandle" ∧ yX5_wayOf.cls ≠ "java/lang/invoke/VarHandle" ∧ (parseMethodDescriptor yX5_wayOf.desc).map (fun d => d.parameters.length) = some 1 := by decide +kernel
theorem dX5_wayOf_0 : decode cX5_wayOf 0 = .ok (.iconst 0, 1) := by decide +kernel
theorem dX5_wayOf_1 : decode cX5_wayOf 1 = .ok (.istore_n 2, 1) := by decide +kernel
theorem dX5_wayOf_2 : decode cX5_wayOf 2 = .ok (.aload_n 0, 1) := by decide +kernel
theorem dX5_wayOf_3 : decode cX5_wayOf 3 = .ok (.iload_n 1, 1) := by decide +kernel
theorem dX5_wayOf_4 : decode cX5_wayOf 4 = .ok (.iconst 2, 1) := by decide +kernel
theorem dX5_wayOf_5 : decode cX5_wayOf 5 = .ok (.invokevirtual 81, 3) := by decide +kernel
theorem dX5_wayOf_8 : decode cX5_wayOf 8 = .ok (.istore_n 3, 1) := by decide +kernel
theorem dX5_wayOf_9 : decode cX5_wayOf 9 = .ok (.iload_n 2, 1) := by decide +kernel
theorem dX5_wayOf_10 : decode cX5_wayOf 10 = .ok (.iload_n 3, 1) := by decide +kernel
theorem dX5_wayOf_11 : decode cX5_wayOf 11 = .ok (.invokestatic 165, 3) := by decide +kernel
theorem dX5_wayOf_14 : decode cX5_wayOf 14 = .ok (.ifCond .ne 19, 3) := by decide +kernel
theorem dX5_wayOf_17 : decode cX5_wayOf 17 = .ok (.iload_n 2, 1) := by decide +kernel
theorem dX5_wayOf_18 : decode cX5_wayOf 18 = .ok (.iconst 1, 1) := by decide +kernel
theorem dX5_wayOf_19 : decode cX5_wayOf 19 = .ok (.iload_n 3, 1) := by decide +kernel
theorem dX5_wayOf_20 : decode cX5_wayOf 20 = .ok (.ishl, 1) := by decide +kernel
theorem dX5_wayOf_21 : decode cX5_wayOf 21 = .ok (.ior, 1) := by decide +kernel
theorem dX5_wayOf_22 : decode cX5_wayOf 22 = .ok (.istore_n 2, 1) := by decide +kernel
theorem dX5_wayOf_23 : decode cX5_wayOf 23 = .ok (.aload_n 0, 1) := by decide +kernel
theorem dX5_wayOf_24 : decode cX5_wayOf 24 = .ok (.iload_n 3, 1) := by decide +kernel
theorem dX5_wayOf_25 : decode cX5_wayOf 25 = .ok (.iconst 2, 1) := by decide +kernel
theorem dX5_wayOf_26 : decode cX5_wayOf 26 = .ok (.invokevirtual 81, 3) := by decide +kernel
theorem dX5_wayOf_29 : decode cX5_wayOf 29 = .ok (.istore_n 3, 1) := by decide +kernel
theorem dX5_wayOf_30 : decode cX5_wayOf 30 = .ok (.goto (-21), 3) := by decide +kernel
theorem dX5_wayOf_33 : decode cX5_wayOf 33 = .ok (.iload_n 2, 1) := by decide +kernel
theorem dX5_wayOf_34 : decode cX5_wayOf 34 = .ok (.ireturn, 1) := by decide +kernel
set_option maxHeartbeats 4000000 in
set_option maxRecDepth 100000 in
theorem g_X5_wayOf {E : fh_E} {M : fh_M} (C : fh_Cx E M cX5_wayOf 4 RX5 ((some FieldType.int)) rm_X5_wayOf) (Hr : fh_Rt E M) (k1 : Nat) (a2 : Int32) (σ3 : fh_S) : fh_Go E M 4 fh_vI 0 [(0, .ref (fh_ad E k1)), (1, .int a2)] [] σ3 (f_X5_wayOf k1 a2 σ3) := by
  have hok := fh_cok C
  refine go_ob ?_
  refine go_iconst C (0 : Int32) dX5_wayOf_0 rfl ?_
  refine go_istore_n C [(2, .int ((0 : Int32))), (0, .ref (fh_ad E k1)), (1, .int a2)] rfl rfl (by decide) dX5_wayOf_1 ?_
  refine go_aload_n C 1 rfl rfl dX5_wayOf_2 ?_
  refine go_iload_n C 2 rfl rfl dX5_wayOf_3 ?_
  refine go_iconst C (2 : Int32) dX5_wayOf_4 rfl ?_
  refine go_callVI C (st := []) [.int a2, .int ((2 : Int32))] (m_X5_dialIs E _ hok k1 a2 ((2 : Int32)) σ3) (fun _ h => fh_ob_ok h) rfl rfl ⟨q_849, q_851, qs_24, q_6, q_852⟩ pd_X5_dialIs rfl ⟨⟨Nat.le_of_ble_eq_true rfl, Nat.le_of_ble_eq_true rfl⟩, rfl, rfl⟩ (Nat.le_of_ble_eq_true rfl) dX5_wayOf_5 (fun r5 σ4 => ?_)
  refine go_istore_n C [(3, .int r5), (2, .int ((0 : Int32))), (0, .ref (fh_ad E k1)), (1, .int a2)] rfl rfl (by decide) dX5_wayOf_8 ?_
  refine go_lv [2, 1, 0] (lv' := [(0, .ref (fh_ad E k1)), (2, .int ((0 : Int32))), (3, .int r5)]) rfl ?_
  refine go_fx (fun (r9 : Int32 → Int32 → fh_S → Option (Int32 × fh_S)) => ∀ (x6 : Int32) (x7 : Int32) (σ8 : fh_S), fh_Go E M 4 fh_vI 9 [(0, .ref (fh_ad E k1)), (2, .int x6), (3, .int x7)] [] σ8 (r9 x6 x7 σ8)) ?_ ?_ fh_fu ((0 : Int32)) r5 σ4
  · intro x6 x7 σ8
    exact go_none
  · intro r9 hr9 x6 x7 σ8
    refine go_iload_n C 1 rfl rfl dX5_wayOf_9 ?_
    refine go_iload_n C 2 rfl rfl dX5_wayOf_10 ?_
    refine go_callSI C (st := []) [.int x6, .int x7] (m_X5_has E _ hok x6 x7 σ8) rfl ⟨q_945, q_946, q_6, q_947⟩ pd_X5_has rfl ⟨⟨Nat.le_of_ble_eq_true rfl, Nat.le_of_ble_eq_true rfl⟩, rfl, rfl⟩ (Nat.le_of_ble_eq_true rfl) dX5_wayOf_11 (fun r11 σ10 => ?_)
    refine go_if_ne (tgt := 33) C dX5_wayOf_14 rfl (fun _ => ?_) (fun _ => ?_)
    · refine go_iload_n C 1 rfl rfl dX5_wayOf_33 ?_
      exact go_iret C Hr rfl dX5_wayOf_34
    · refine go_iload_n C 1 rfl rfl dX5_wayOf_17 ?_
      refine go_iconst C (1 : Int32) dX5_wayOf_18 rfl ?_
      refine go_iload_n C 2 rfl rfl dX5_wayOf_19 ?_
      refine go_ishl C dX5_wayOf_20 ?_
      refine go_ior C dX5_wayOf_21 ?_
      refine go_istore_n C [(2, .int (x6 ||| (((1 : Int32)) <<< (x7 &&& 31)))), (0, .ref (fh_ad E k1)), (3, .int x7)] rfl rfl (by decide) dX5_wayOf_22 ?_
      refine go_aload_n C 1 rfl rfl dX5_wayOf_23 ?_
      refine go_iload_n C 2 rfl rfl dX5_wayOf_24 ?_
      refine go_iconst C (2 : Int32) dX5_wayOf_25 rfl ?_
      refine go_callVI C (st := []) [.int x7, .int ((2 : Int32))] (m_X5_dialIs E _ hok k1 x7 ((2 : Int32)) σ10) (fun _ h => fh_ob_ok h) rfl rfl ⟨q_849, q_851, qs_24, q_6, q_852⟩ pd_X5_dialIs rfl ⟨⟨Nat.le_of_ble_eq_true rfl, Nat.le_of_ble_eq_true rfl⟩, rfl, rfl⟩ (Nat.le_of_ble_eq_true rfl) dX5_wayOf_26 (fun r13 σ12 => ?_)
      refine go_istore_n C [(3, .int r13), (2, .int (x6 ||| (((1 : Int32)) <<< (x7 &&& 31)))), (0, .ref (fh_ad E k1))] rfl rfl (by decide) dX5_wayOf_29 ?_
      refine go_goto C 9 dX5_wayOf_30 rfl ?_
      refine go_lv [2, 1, 0] (lv' := [(0, .ref (fh_ad E k1)), (2, .int (x6 ||| (((1 : Int32)) <<< (x7 &&& 31)))), (3, .int r13)]) rfl ?_
      exact hr9 (x6 ||| (((1 : Int32)) <<< (x7 &&& 31))) r13 σ12
theorem m_X5_wayOf (E : fh_E) (l : Launch) (hok : fh_ok E) (k1 : Nat) (a2 : Int32) (σ3 : fh_S) : fh_Met E l yX5_wayOf cX5_wayOf 4 ((some FieldType.int)) rm_X5_wayOf fh_vI [.ref (fh_ad E k1), .int a2] σ3 (f_X5_wayOf k1 a2 σ3) := fh_met hok (by decide +kernel) (Nat.le_of_ble_eq_true rfl) (fun M _ C Hr => g_X5_wayOf C Hr k1 a2 σ3)
def f_X5_ringOf_B4 (k1 : Nat) (r7 : Int32 → Int32 → fh_S → Option (Int32 × fh_S)) : Int32 → Int32 → fh_S → Option (Int32 × fh_S) := fun x4 x5 σ6 => if ((10 : Int32)) ≤ x5 then fh_cb (f_X5_wayOf k1 x4 σ6) fun r9 σ8 => some (r9, σ8) else fh_cb (f_X5_dialIs k1 x4 ((2 : Int32)) σ6) fun r11 σ10 => r7 r11 (x5 + 1) σ10
def f_X5_ringOf (k1 : Nat) (a2 : Int32) (σ3 : fh_S) : Option (Int32 × fh_S) := fh_ob 5 k1 (fh_fx (ρ := Int32 → Int32 → fh_S → Option (Int32 × fh_S)) (fun _ _ _ => none) (f_X5_ringOf_B4 k1) fh_fu a2 ((0 : Int32)) σ3)
abbrev rm_X5_ringOf : Room := { frames := 3, cells := 0, slots := 0, locals := 66 }
theorem pd_X5_ringOf : yX5_ringOf.cls ≠ "java/lang/invoke/MethodHandle" ∧ yX5_ringOf.cls ≠ "java/lang/invoke/VarHandle" ∧ (parseMethodDescriptor yX5_ringOf.desc).map (fun d => d.parameters.length) = some 1 := by decide +kernel
theorem dX5_ringOf_0 : decode cX5_ringOf 0 = .ok (.iload_n 1, 1) := by decide +kernel
theorem dX5_ringOf_1 : decode cX5_ringOf 1 = .ok (.istore_n 2, 1) := by decide +kernel
theorem dX5_ringOf_2 : decode cX5_ringOf 2 = .ok (.iconst 0, 1) := by decide +kernel
theorem dX5_ringOf_3 : decode cX5_ringOf 3 = .ok (.istore_n 3, 1) := by decide +kernel
theorem dX5_ringOf_4 : decode cX5_ringOf 4 = .ok (.iload_n 3, 1) := by decide +kernel
theorem dX5_ringOf_5 : decode cX5_ringOf 5 = .ok (.bipush 10, 2) := by decide +kernel
theorem dX5_ringOf_7 : decode cX5_ringOf 7 = .ok (.if_icmp .ge 16, 3) := by decide +kernel
theorem dX5_ringOf_10 : decode cX5_ringOf 10 = .ok (.aload_n 0, 1) := by decide +kernel
theorem dX5_ringOf_11 : decode cX5_ringOf 11 = .ok (.iload_n 2, 1) := by decide +kernel
theorem dX5_ringOf_12 : decode cX5_ringOf 12 = .ok (.iconst 2, 1) := by decide +kernel
theorem dX5_ringOf_13 : decode cX5_ringOf 13 = .ok (.invokevirtual 81, 3) := by decide +kernel
theorem dX5_ringOf_16 : decode cX5_ringOf 16 = .ok (.istore_n 2, 1) := by decide +kernel
theorem dX5_ringOf_17 : decode cX5_ringOf 17 = .ok (.iinc 3 1, 3) := by decide +kernel
theorem dX5_ringOf_20 : decode cX5_ringOf 20 = .ok (.goto (-16), 3) := by decide +kernel
theorem dX5_ringOf_23 : decode cX5_ringOf 23 = .ok (.aload_n 0, 1) := by decide +kernel
theorem dX5_ringOf_24 : decode cX5_ringOf 24 = .ok (.iload_n 2, 1) := by decide +kernel
theorem dX5_ringOf_25 : decode cX5_ringOf 25 = .ok (.invokevirtual 168, 3) := by decide +kernel
theorem dX5_ringOf_28 : decode cX5_ringOf 28 = .ok (.ireturn, 1) := by decide +kernel
set_option maxHeartbeats 4000000 in
set_option maxRecDepth 100000 in
theorem g_X5_ringOf {E : fh_E} {M : fh_M} (C : fh_Cx E M cX5_ringOf 4 RX5 ((some FieldType.int)) rm_X5_ringOf) (Hr : fh_Rt E M) (k1 : Nat) (a2 : Int32) (σ3 : fh_S) : fh_Go E M 4 fh_vI 0 [(0, .ref (fh_ad E k1)), (1, .int a2)] [] σ3 (f_X5_ringOf k1 a2 σ3) := by
  have hok := fh_cok C
  refine go_ob ?_
  refine go_iload_n C 1 rfl rfl dX5_ringOf_0 ?_
  refine go_istore_n C [(2, .int a2), (0, .ref (fh_ad E k1)), (1, .int a2)] rfl rfl (by decide) dX5_ringOf_1 ?_
  refine go_iconst C (0 : Int32) dX5_ringOf_2 rfl ?_
  refine go_istore_n C [(3, .int ((0 : Int32))), (2, .int a2), (0, .ref (fh_ad E k1)), (1, .int a2)] rfl rfl (by decide) dX5_ringOf_3 ?_
  refine go_lv [2, 1, 0] (lv' := [(0, .ref (fh_ad E k1)), (2, .int a2), (3, .int ((0 : Int32)))]) rfl ?_
  refine go_fx (fun (r7 : Int32 → Int32 → fh_S → Option (Int32 × fh_S)) => ∀ (x4 : Int32) (x5 : Int32) (σ6 : fh_S), fh_Go E M 4 fh_vI 4 [(0, .ref (fh_ad E k1)), (2, .int x4), (3, .int x5)] [] σ6 (r7 x4 x5 σ6)) ?_ ?_ fh_fu a2 ((0 : Int32)) σ3
  · intro x4 x5 σ6
    exact go_none
  · intro r7 hr7 x4 x5 σ6
    refine go_iload_n C 2 rfl rfl dX5_ringOf_4 ?_
    refine go_bipush C (10 : Int32) dX5_ringOf_5 rfl ?_
    refine go_icmp_ge (tgt := 23) C dX5_ringOf_7 rfl (fun _ => ?_) (fun _ => ?_)
    · refine go_aload_n C 0 rfl rfl dX5_ringOf_23 ?_
      refine go_iload_n C 1 rfl rfl dX5_ringOf_24 ?_
      refine go_callVI C (st := []) [.int x4] (m_X5_wayOf E _ hok k1 x4 σ6) (fun _ h => fh_ob_ok h) rfl rfl ⟨q_941, q_943, qs_37, q_6, q_944⟩ pd_X5_wayOf rfl ⟨⟨Nat.le_of_ble_eq_true rfl, Nat.le_of_ble_eq_true rfl⟩, rfl, rfl⟩ (Nat.le_of_ble_eq_true rfl) dX5_ringOf_25 (fun r9 σ8 => ?_)
      exact go_iret C Hr rfl dX5_ringOf_28
    · refine go_aload_n C 0 rfl rfl dX5_ringOf_10 ?_
      refine go_iload_n C 1 rfl rfl dX5_ringOf_11 ?_
      refine go_iconst C (2 : Int32) dX5_ringOf_12 rfl ?_
      refine go_callVI C (st := []) [.int x4, .int ((2 : Int32))] (m_X5_dialIs E _ hok k1 x4 ((2 : Int32)) σ6) (fun _ h => fh_ob_ok h) rfl rfl ⟨q_849, q_851, qs_24, q_6, q_852⟩ pd_X5_dialIs rfl ⟨⟨Nat.le_of_ble_eq_true rfl, Nat.le_of_ble_eq_true rfl⟩, rfl, rfl⟩ (Nat.le_of_ble_eq_true rfl) dX5_ringOf_13 (fun r11 σ10 => ?_)
      refine go_istore_n C [(2, .int r11), (0, .ref (fh_ad E k1)), (3, .int x5)] rfl rfl (by decide) dX5_ringOf_16 ?_
      refine go_iinc C (x5 + 1) 2 [(3, .int (x5 + 1)), (2, .int r11), (0, .ref (fh_ad E k1))] rfl rfl rfl (by decide) dX5_ringOf_17 ?_
      refine go_goto C 4 dX5_ringOf_20 rfl ?_
      refine go_lv [2, 1, 0] (lv' := [(0, .ref (fh_ad E k1)), (2, .int r11), (3, .int (x5 + 1))]) rfl ?_
      exact hr7 r11 (x5 + 1) σ10
theorem m_X5_ringOf (E : fh_E) (l : Launch) (hok : fh_ok E) (k1 : Nat) (a2 : Int32) (σ3 : fh_S) : fh_Met E l yX5_ringOf cX5_ringOf 4 ((some FieldType.int)) rm_X5_ringOf fh_vI [.ref (fh_ad E k1), .int a2] σ3 (f_X5_ringOf k1 a2 σ3) := fh_met hok (by decide +kernel) (Nat.le_of_ble_eq_true rfl) (fun M _ C Hr => g_X5_ringOf C Hr k1 a2 σ3)
def f_X5_way (k1 : Nat) (a2 : Int32) (σ3 : fh_S) : Option (Int32 × fh_S) := fh_ob 5 k1 (fh_cb (f_X5_isDial k1 a2 σ3) fun r5 σ4 => if r5 = 0 then fh_cb (f_X5_finding k1 ((-1000001 : Int32)) σ4) fun r7 σ6 => some (r7, σ6) else fh_cb (f_X5_wayOf k1 a2 σ4) fun r9 σ8 => some (r9, σ8))
abbrev rm_X5_way : Room := { frames := 3, cells := 0, slots := 0, locals := 66 }
theorem pd_X5_way : yX5_way.cls ≠ "java/lang/invoke/MethodHandle" ∧ yX5_way.cls ≠ "java/lang/invoke/VarHandle" ∧ (parseMethodDescriptor yX5_way.desc).map (fun d => d.parameters.length) = some 1 := by decide +kernel
theorem dX5_way_0 : decode cX5_way 0 = .ok (.aload_n 0, 1) := by decide +kernel
theorem dX5_way_1 : decode cX5_way 1 = .ok (.iload_n 1, 1) := by decide +kernel
theorem dX5_way_2 : decode cX5_way 2 = .ok (.invokevirtual 112, 3) := by decide +kernel
theorem dX5_way_5 : decode cX5_way 5 = .ok (.ifCond .eq 11, 3) := by decide +kernel
theorem dX5_way_8 : decode cX5_way 8 = .ok (.aload_n 0, 1) := by decide +kernel
theorem dX5_way_9 : decode cX5_way 9 = .ok (.iload_n 1, 1) := by decide +kernel
theorem dX5_way_10 : decode cX5_way 10 = .ok (.invokevirtual 168, 3) := by decide +kernel
theorem dX5_way_13 : decode cX5_way 13 = .ok (.goto 9, 3) := by decide +kernel
theorem dX5_way_16 : decode cX5_way 16 = .ok (.aload_n 0, 1) := by decide +kernel
theorem dX5_way_17 : decode cX5_way 17 = .ok (.ldc 63, 2) := by decide +kernel
theorem dX5_way_19 : decode cX5_way 19 = .ok (.invokevirtual 69, 3) := by decide +kernel
theorem dX5_way_22 : decode cX5_way 22 = .ok (.ireturn, 1) := by decide +kernel
set_option maxHeartbeats 4000000 in
set_option maxRecDepth 100000 in
theorem g_X5_way {E : fh_E} {M : fh_M} (C : fh_Cx E M cX5_way 2 RX5 ((some FieldType.int)) rm_X5_way) (Hr : fh_Rt E M) (k1 : Nat) (a2 : Int32) (σ3 : fh_S) : fh_Go E M 2 fh_vI 0 [(0, .ref (fh_ad E k1)), (1, .int a2)] [] σ3 (f_X5_way k1 a2 σ3) := by
  have hok := fh_cok C
  refine go_ob ?_
  refine go_aload_n C 0 rfl rfl dX5_way_0 ?_
  refine go_iload_n C 1 rfl rfl dX5_way_1 ?_
  refine go_callVI C (st := []) [.int a2] (m_X5_isDial E _ hok k1 a2 σ3) (fun _ h => fh_ob_ok h) rfl rfl ⟨q_837, q_839, qs_21, q_6, q_840⟩ pd_X5_isDial rfl ⟨⟨Nat.le_of_ble_eq_true rfl, Nat.le_of_ble_eq_true rfl⟩, rfl, rfl⟩ (Nat.le_of_ble_eq_true rfl) dX5_way_2 (fun r5 σ4 => ?_)
  refine go_if_eq (tgt := 16) C dX5_way_5 rfl (fun _ => ?_) (fun _ => ?_)
  · refine go_aload_n C 0 rfl rfl dX5_way_16 ?_
    refine go_ldc C q_820 dX5_way_17 ?_
    refine go_callVI C (st := []) [.int ((-1000001 : Int32))] (m_X5_finding E _ hok k1 ((-1000001 : Int32)) σ4) (fun _ h => fh_ob_ok h) rfl rfl ⟨q_821, q_823, qs_19, q_6, q_824⟩ pd_X5_finding rfl ⟨⟨Nat.le_of_ble_eq_true rfl, Nat.le_of_ble_eq_true rfl⟩, rfl, rfl⟩ (Nat.le_of_ble_eq_true rfl) dX5_way_19 (fun r7 σ6 => ?_)
    exact go_iret C Hr rfl dX5_way_22
  · refine go_aload_n C 0 rfl rfl dX5_way_8 ?_
    refine go_iload_n C 1 rfl rfl dX5_way_9 ?_
    refine go_callVI C (st := []) [.int a2] (m_X5_wayOf E _ hok k1 a2 σ4) (fun _ h => fh_ob_ok h) rfl rfl ⟨q_941, q_943, qs_37, q_6, q_944⟩ pd_X5_wayOf rfl ⟨⟨Nat.le_of_ble_eq_true rfl, Nat.le_of_ble_eq_true rfl⟩, rfl, rfl⟩ (Nat.le_of_ble_eq_true rfl) dX5_way_10 (fun r9 σ8 => ?_)
    refine go_goto C 22 dX5_way_13 rfl ?_
    exact go_iret C Hr rfl dX5_way_22
theorem m_X5_way (E : fh_E) (l : Launch) (hok : fh_ok E) (k1 : Nat) (a2 : Int32) (σ3 : fh_S) : fh_Met E l yX5_way cX5_way 2 ((some FieldType.int)) rm_X5_way fh_vI [.ref (fh_ad E k1), .int a2] σ3 (f_X5_way k1 a2 σ3) := fh_met hok (by decide +kernel) (Nat.le_of_ble_eq_true rfl) (fun M _ C Hr => g_X5_way C Hr k1 a2 σ3)
def f_X5_ring (k1 : Nat) (a2 : Int32) (σ3 : fh_S) : Option (Int32 × fh_S) := fh_ob 5 k1 (fh_cb (f_X5_isDial k1 a2 σ3) fun r5 σ4 => if r5 = 0 then fh_cb (f_X5_finding k1 ((-1000001 : Int32)) σ4) fun r7 σ6 => some (r7, σ6) else fh_cb (f_X5_ringOf k1 a2 σ4) fun r9 σ8 => some (r9, σ8))
abbrev rm_X5_ring : Room := { frames := 4, cells := 0, slots := 0, locals := 89 }
theorem pd_X5_ring : yX5_ring.cls ≠ "java/lang/invoke/MethodHandle" ∧ yX5_ring.cls ≠ "java/lang/invoke/VarHandle" ∧ (parseMethodDescriptor yX5_ring.desc).map (fun d => d.parameters.length) = some 1 := by decide +kernel
theorem dX5_ring_0 : decode cX5_ring 0 = .ok (.aload_n 0, 1) := by decide +kernel
theorem dX5_ring_1 : decode cX5_ring 1 = .ok (.iload_n 1, 1) := by decide +kernel
theorem dX5_ring_2 : decode cX5_ring 2 = .ok (.invokevirtual 112, 3) := by decide +kernel
theorem dX5_ring_5 : decode cX5_ring 5 = .ok (.ifCond .eq 11, 3) := by decide +kernel
theorem dX5_ring_8 : decode cX5_ring 8 = .ok (.aload_n 0, 1) := by decide +kernel
theorem dX5_ring_9 : decode cX5_ring 9 = .ok (.iload_n 1, 1) := by decide +kernel
theorem dX5_ring_10 : decode cX5_ring 10 = .ok (.invokevirtual 171, 3) := by decide +kernel
theorem dX5_ring_13 : decode cX5_ring 13 = .ok (.goto 9, 3) := by decide +kernel
theorem dX5_ring_16 : decode cX5_ring 16 = .ok (.aload_n 0, 1) := by decide +kernel
theorem dX5_ring_17 : decode cX5_ring 17 = .ok (.ldc 63, 2) := by decide +kernel
theorem dX5_ring_19 : decode cX5_ring 19 = .ok (.invokevirtual 69, 3) := by decide +kernel
theorem dX5_ring_22 : decode cX5_ring 22 = .ok (.ireturn, 1) := by decide +kernel
set_option maxHeartbeats 4000000 in
set_option maxRecDepth 100000 in
theorem g_X5_ring {E : fh_E} {M : fh_M} (C : fh_Cx E M cX5_ring 2 RX5 ((some FieldType.int)) rm_X5_ring) (Hr : fh_Rt E M) (k1 : Nat) (a2 : Int32) (σ3 : fh_S) : fh_Go E M 2 fh_vI 0 [(0, .ref (fh_ad E k1)), (1, .int a2)] [] σ3 (f_X5_ring k1 a2 σ3) := by
  have hok := fh_cok C
  refine go_ob ?_
  refine go_aload_n C 0 rfl rfl dX5_ring_0 ?_
  refine go_iload_n C 1 rfl rfl dX5_ring_1 ?_
  refine go_callVI C (st := []) [.int a2] (m_X5_isDial E _ hok k1 a2 σ3) (fun _ h => fh_ob_ok h) rfl rfl ⟨q_837, q_839, qs_21, q_6, q_840⟩ pd_X5_isDial rfl ⟨⟨Nat.le_of_ble_eq_true rfl, Nat.le_of_ble_eq_true rfl⟩, rfl, rfl⟩ (Nat.le_of_ble_eq_true rfl) dX5_ring_2 (fun r5 σ4 => ?_)
  refine go_if_eq (tgt := 16) C dX5_ring_5 rfl (fun _ => ?_) (fun _ => ?_)
  · refine go_aload_n C 0 rfl rfl dX5_ring_16 ?_
    refine go_ldc C q_820 dX5_ring_17 ?_
    refine go_callVI C (st := []) [.int ((-1000001 : Int32))] (m_X5_finding E _ hok k1 ((-1000001 : Int32)) σ4) (fun _ h => fh_ob_ok h) rfl rfl ⟨q_821, q_823, qs_19, q_6, q_824⟩ pd_X5_finding rfl ⟨⟨Nat.le_of_ble_eq_true rfl, Nat.le_of_ble_eq_true rfl⟩, rfl, rfl⟩ (Nat.le_of_ble_eq_true rfl) dX5_ring_19 (fun r7 σ6 => ?_)
    exact go_iret C Hr rfl dX5_ring_22
  · refine go_aload_n C 0 rfl rfl dX5_ring_8 ?_
    refine go_iload_n C 1 rfl rfl dX5_ring_9 ?_
    refine go_callVI C (st := []) [.int a2] (m_X5_ringOf E _ hok k1 a2 σ4) (fun _ h => fh_ob_ok h) rfl rfl ⟨q_952, q_954, qs_38, q_6, q_955⟩ pd_X5_ringOf rfl ⟨⟨Nat.le_of_ble_eq_true rfl, Nat.le_of_ble_eq_true rfl⟩, rfl, rfl⟩ (Nat.le_of_ble_eq_true rfl) dX5_ring_10 (fun r9 σ8 => ?_)
    refine go_goto C 22 dX5_ring_13 rfl ?_
    exact go_iret C Hr rfl dX5_ring_22
theorem m_X5_ring (E : fh_E) (l : Launch) (hok : fh_ok E) (k1 : Nat) (a2 : Int32) (σ3 : fh_S) : fh_Met E l yX5_ring cX5_ring 2 ((some FieldType.int)) rm_X5_ring fh_vI [.ref (fh_ad E k1), .int a2] σ3 (f_X5_ring k1 a2 σ3) := fh_met hok (by decide +kernel) (Nat.le_of_ble_eq_true rfl) (fun M _ C Hr => g_X5_ring C Hr k1 a2 σ3)
def f_X5_manyRings_J44 (r6 : Int32 → Int32 → fh_S → Option (Int32 × fh_S)) (x3 : Int32) (x4 : Int32) : Int32 → fh_S → Option (Int32 × fh_S) := fun x13 σ14 => r6 (x3 + x13) (x4 + 1) σ14
def f_X5_manyRings_J43 (j15 : Int32 → fh_S → Option (Int32 × fh_S)) : fh_S → Option (Int32 × fh_S) := fun σ16 => j15 ((0 : Int32)) σ16
def f_X5_manyRings_B4 (k1 : Nat) (r6 : Int32 → Int32 → fh_S → Option (Int32 × fh_S)) : Int32 → Int32 → fh_S → Option (Int32 × fh_S) := fun x3 x4 σ5 => (fh_gr 5 k1 0).bind fun k7 => (fh_ld σ5 k7 ((1 : Int32))).bind fun v8 => if v8 ≤ x4 then some (x3, σ5) else fh_cb (f_X5_ringOf k1 x4 σ5) fun r10 σ9 => fh_cb (f_X5_has r10 x4 σ9) fun r12 σ11 => fh_jn (f_X5_manyRings_J44 r6 x3 x4) (fun j15 => fh_jn (f_X5_manyRings_J43 j15) (fun j17 => if r12 = 0 then j17 σ11 else if (r10 &&& ((((1 : Int32)) <<< (x4 &&& 31)) - ((1 : Int32)))) = 0 then j15 ((1 : Int32)) σ11 else j17 σ11))
def f_X5_manyRings (k1 : Nat) (σ2 : fh_S) : Option (Int32 × fh_S) := fh_ob 5 k1 (fh_fx (ρ := Int32 → Int32 → fh_S → Option (Int32 × fh_S)) (fun _ _ _ => none) (f_X5_manyRings_B4 k1) fh_fu ((0 : Int32)) ((0 : Int32)) σ2)
abbrev rm_X5_manyRings : Room := { frames := 4, cells := 0, slots := 0, locals := 89 }
theorem pd_X5_manyRings : yX5_manyRings.cls ≠ "java/lang/invoke/MethodHandle" ∧ yX5_manyRings.cls ≠ "java/lang/invoke/VarHandle" ∧ (parseMethodDescriptor yX5_manyRings.desc).map (fun d => d.parameters.length) = some 0 := by decide +kernel
theorem dX5_manyRings_0 : decode cX5_manyRings 0 = .ok (.iconst 0, 1) := by decide +kernel
theorem dX5_manyRings_1 : decode cX5_manyRings 1 = .ok (.istore_n 1, 1) := by decide +kernel
theorem dX5_manyRings_2 : decode cX5_manyRings 2 = .ok (.iconst 0, 1) := by decide +kernel
theorem dX5_manyRings_3 : decode cX5_manyRings 3 = .ok (.istore_n 2, 1) := by decide +kernel
theorem dX5_manyRings_4 : decode cX5_manyRings 4 = .ok (.iload_n 2, 1) := by decide +kernel
theorem dX5_manyRings_5 : decode cX5_manyRings 5 = .ok (.aload_n 0, 1) := by decide +kernel
theorem dX5_manyRings_6 : decode cX5_manyRings 6 = .ok (.getfield 9, 3) := by decide +kernel
theorem dX5_manyRings_9 : decode cX5_manyRings 9 = .ok (.iconst 1, 1) := by decide +kernel
theorem dX5_manyRings_10 : decode cX5_manyRings 10 = .ok (.iaload, 1) := by decide +kernel
theorem dX5_manyRings_11 : decode cX5_manyRings 11 = .ok (.if_icmp .ge 41, 3) := by decide +kernel
theorem dX5_manyRings_14 : decode cX5_manyRings 14 = .ok (.aload_n 0, 1) := by decide +kernel
theorem dX5_manyRings_15 : decode cX5_manyRings 15 = .ok (.iload_n 2, 1) := by decide +kernel
theorem dX5_manyRings_16 : decode cX5_manyRings 16 = .ok (.invokevirtual 171, 3) := by decide +kernel
theorem dX5_manyRings_19 : decode cX5_manyRings 19 = .ok (.istore_n 3, 1) := by decide +kernel
theorem dX5_manyRings_20 : decode cX5_manyRings 20 = .ok (.iload_n 1, 1) := by decide +kernel
theorem dX5_manyRings_21 : decode cX5_manyRings 21 = .ok (.iload_n 3, 1) := by decide +kernel
theorem dX5_manyRings_22 : decode cX5_manyRings 22 = .ok (.iload_n 2, 1) := by decide +kernel
theorem dX5_manyRings_23 : decode cX5_manyRings 23 = .ok (.invokestatic 165, 3) := by decide +kernel
theorem dX5_manyRings_26 : decode cX5_manyRings 26 = .ok (.ifCond .eq 17, 3) := by decide +kernel
theorem dX5_manyRings_29 : decode cX5_manyRings 29 = .ok (.iload_n 3, 1) := by decide +kernel
theorem dX5_manyRings_30 : decode cX5_manyRings 30 = .ok (.iconst 1, 1) := by decide +kernel
theorem dX5_manyRings_31 : decode cX5_manyRings 31 = .ok (.iload_n 2, 1) := by decide +kernel
theorem dX5_manyRings_32 : decode cX5_manyRings 32 = .ok (.ishl, 1) := by decide +kernel
theorem dX5_manyRings_33 : decode cX5_manyRings 33 = .ok (.iconst 1, 1) := by decide +kernel
theorem dX5_manyRings_34 : decode cX5_manyRings 34 = .ok (.isub, 1) := by decide +kernel
theorem dX5_manyRings_35 : decode cX5_manyRings 35 = .ok (.iand, 1) := by decide +kernel
theorem dX5_manyRings_36 : decode cX5_manyRings 36 = .ok (.ifCond .ne 7, 3) := by decide +kernel
theorem dX5_manyRings_39 : decode cX5_manyRings 39 = .ok (.iconst 1, 1) := by decide +kernel
theorem dX5_manyRings_40 : decode cX5_manyRings 40 = .ok (.goto 4, 3) := by decide +kernel
theorem dX5_manyRings_43 : decode cX5_manyRings 43 = .ok (.iconst 0, 1) := by decide +kernel
theorem dX5_manyRings_44 : decode cX5_manyRings 44 = .ok (.iadd, 1) := by decide +kernel
theorem dX5_manyRings_45 : decode cX5_manyRings 45 = .ok (.istore_n 1, 1) := by decide +kernel
theorem dX5_manyRings_46 : decode cX5_manyRings 46 = .ok (.iinc 2 1, 3) := by decide +kernel
theorem dX5_manyRings_49 : decode cX5_manyRings 49 = .ok (.goto (-45), 3) := by decide +kernel
theorem dX5_manyRings_52 : decode cX5_manyRings 52 = .ok (.iload_n 1, 1) := by decide +kernel
theorem dX5_manyRings_53 : decode cX5_manyRings 53 = .ok (.ireturn, 1) := by decide +kernel
set_option maxHeartbeats 4000000 in
set_option maxRecDepth 100000 in
theorem g_X5_manyRings {E : fh_E} {M : fh_M} (C : fh_Cx E M cX5_manyRings 4 RX5 ((some FieldType.int)) rm_X5_manyRings) (Hr : fh_Rt E M) (k1 : Nat) (σ2 : fh_S) : fh_Go E M 4 fh_vI 0 [(0, .ref (fh_ad E k1))] [] σ2 (f_X5_manyRings k1 σ2) := by
  have hok := fh_cok C
  refine go_ob ?_
  refine go_iconst C (0 : Int32) dX5_manyRings_0 rfl ?_
  refine go_istore_n C [(1, .int ((0 : Int32))), (0, .ref (fh_ad E k1))] rfl rfl (by decide) dX5_manyRings_1 ?_
  refine go_iconst C (0 : Int32) dX5_manyRings_2 rfl ?_
  refine go_istore_n C [(2, .int ((0 : Int32))), (1, .int ((0 : Int32))), (0, .ref (fh_ad E k1))] rfl rfl (by decide) dX5_manyRings_3 ?_
  refine go_lv [2, 1, 0] (lv' := [(0, .ref (fh_ad E k1)), (1, .int ((0 : Int32))), (2, .int ((0 : Int32)))]) rfl ?_
  refine go_fx (fun (r6 : Int32 → Int32 → fh_S → Option (Int32 × fh_S)) => ∀ (x3 : Int32) (x4 : Int32) (σ5 : fh_S), fh_Go E M 4 fh_vI 4 [(0, .ref (fh_ad E k1)), (1, .int x3), (2, .int x4)] [] σ5 (r6 x3 x4 σ5)) ?_ ?_ fh_fu ((0 : Int32)) ((0 : Int32)) σ2
  · intro x3 x4 σ5
    exact go_none
  · intro r6 hr6 x3 x4 σ5
    refine go_iload_n C 2 rfl rfl dX5_manyRings_4 ?_
    refine go_aload_n C 0 rfl rfl dX5_manyRings_5 ?_
    refine go_gr (ci := 5) (j := 0) C fh_in5 rfl (by decide) rfl q_746 dX5_manyRings_6 (fun k7 => ?_)
    refine go_iconst C (1 : Int32) dX5_manyRings_9 rfl ?_
    refine go_iald C dX5_manyRings_10 (fun v8 => ?_)
    refine go_icmp_ge (tgt := 52) C dX5_manyRings_11 rfl (fun _ => ?_) (fun _ => ?_)
    · refine go_iload_n C 1 rfl rfl dX5_manyRings_52 ?_
      exact go_iret C Hr rfl dX5_manyRings_53
    · refine go_aload_n C 0 rfl rfl dX5_manyRings_14 ?_
      refine go_iload_n C 2 rfl rfl dX5_manyRings_15 ?_
      refine go_callVI C (st := []) [.int x4] (m_X5_ringOf E _ hok k1 x4 σ5) (fun _ h => fh_ob_ok h) rfl rfl ⟨q_952, q_954, qs_38, q_6, q_955⟩ pd_X5_ringOf rfl ⟨⟨Nat.le_of_ble_eq_true rfl, Nat.le_of_ble_eq_true rfl⟩, rfl, rfl⟩ (Nat.le_of_ble_eq_true rfl) dX5_manyRings_16 (fun r10 σ9 => ?_)
      refine go_istore_n C [(3, .int r10), (0, .ref (fh_ad E k1)), (1, .int x3), (2, .int x4)] rfl rfl (by decide) dX5_manyRings_19 ?_
      refine go_iload_n C 2 rfl rfl dX5_manyRings_20 ?_
      refine go_iload_n C 0 rfl rfl dX5_manyRings_21 ?_
      refine go_iload_n C 3 rfl rfl dX5_manyRings_22 ?_
      refine go_callSI C (st := [.int x3]) [.int r10, .int x4] (m_X5_has E _ hok r10 x4 σ9) rfl ⟨q_945, q_946, q_6, q_947⟩ pd_X5_has rfl ⟨⟨Nat.le_of_ble_eq_true rfl, Nat.le_of_ble_eq_true rfl⟩, rfl, rfl⟩ (Nat.le_of_ble_eq_true rfl) dX5_manyRings_23 (fun r12 σ11 => ?_)
      refine go_jn (fun (j15 : Int32 → fh_S → Option (Int32 × fh_S)) => ∀ (x13 : Int32) (σ14 : fh_S), fh_Go E M 4 fh_vI 44 [(0, .ref (fh_ad E k1)), (2, .int x4)] [.int x13, .int x3] σ14 (j15 x13 σ14)) ?_ (fun j15 hj15 => ?_)
      · intro x13 σ14
        refine go_iadd C dX5_manyRings_44 ?_
        refine go_istore_n C [(1, .int (x3 + x13)), (0, .ref (fh_ad E k1)), (2, .int x4)] rfl rfl (by decide) dX5_manyRings_45 ?_
        refine go_iinc C (x4 + 1) 2 [(2, .int (x4 + 1)), (1, .int (x3 + x13)), (0, .ref (fh_ad E k1))] rfl rfl rfl (by decide) dX5_manyRings_46 ?_
        refine go_goto C 4 dX5_manyRings_49 rfl ?_
        refine go_lv [2, 1, 0] (lv' := [(0, .ref (fh_ad E k1)), (1, .int (x3 + x13)), (2, .int (x4 + 1))]) rfl ?_
        exact hr6 (x3 + x13) (x4 + 1) σ14
      refine go_jn (fun (j17 : fh_S → Option (Int32 × fh_S)) => ∀ (σ16 : fh_S), fh_Go E M 4 fh_vI 43 [(0, .ref (fh_ad E k1)), (2, .int x4)] [.int x3] σ16 (j17 σ16)) ?_ (fun j17 hj17 => ?_)
      · intro σ16
        refine go_iconst C (0 : Int32) dX5_manyRings_43 rfl ?_
        exact hj15 ((0 : Int32)) σ16
      refine go_if_eq (tgt := 43) C dX5_manyRings_26 rfl (fun _ => ?_) (fun _ => ?_)
      · refine go_lv [1, 3] (lv' := [(0, .ref (fh_ad E k1)), (2, .int x4)]) rfl ?_
        exact hj17 σ11
      · refine go_iload_n C 0 rfl rfl dX5_manyRings_29 ?_
        refine go_iconst C (1 : Int32) dX5_manyRings_30 rfl ?_
        refine go_iload_n C 3 rfl rfl dX5_manyRings_31 ?_
        refine go_ishl C dX5_manyRings_32 ?_
        refine go_iconst C (1 : Int32) dX5_manyRings_33 rfl ?_
        refine go_isub C dX5_manyRings_34 ?_
        refine go_iand C dX5_manyRings_35 ?_
        refine go_if_ne (tgt := 43) C dX5_manyRings_36 rfl (fun _ => ?_) (fun _ => ?_)
        · refine go_lv [1, 3] (lv' := [(0, .ref (fh_ad E k1)), (2, .int x4)]) rfl ?_
          exact hj17 σ11
        · refine go_iconst C (1 : Int32) dX5_manyRings_39 rfl ?_
          refine go_goto C 44 dX5_manyRings_40 rfl ?_
          refine go_lv [1, 3] (lv' := [(0, .ref (fh_ad E k1)), (2, .int x4)]) rfl ?_
          exact hj15 ((1 : Int32)) σ11
theorem m_X5_manyRings (E : fh_E) (l : Launch) (hok : fh_ok E) (k1 : Nat) (σ2 : fh_S) : fh_Met E l yX5_manyRings cX5_manyRings 4 ((some FieldType.int)) rm_X5_manyRings fh_vI [.ref (fh_ad E k1)] σ2 (f_X5_manyRings k1 σ2) := fh_met hok (by decide +kernel) (Nat.le_of_ble_eq_true rfl) (fun M _ C Hr => g_X5_manyRings C Hr k1 σ2)
def f_X5_rings (k1 : Nat) (σ2 : fh_S) : Option (Int32 × fh_S) := fh_ob 5 k1 (fh_cb (f_X5_manyRings k1 σ2) fun r4 σ3 => some (r4, σ3))
abbrev rm_X5_rings : Room := { frames := 5, cells := 0, slots := 0, locals := 112 }
theorem pd_X5_rings : yX5_rings.cls ≠ "java/lang/invoke/MethodHandle" ∧ yX5_rings.cls ≠ "java/lang/invoke/VarHandle" ∧ (parseMethodDescriptor yX5_rings.desc).map (fun d => d.parameters.length) = some 0 := by decide +kernel
theorem dX5_rings_0 : decode cX5_rings 0 = .ok (.aload_n 0, 1) := by decide +kernel
theorem dX5_rings_1 : decode cX5_rings 1 = .ok (.invokevirtual 174, 3) := by decide +kernel
theorem dX5_rings_4 : decode cX5_rings 4 = .ok (.ireturn, 1) := by decide +kernel
set_option maxHeartbeats 4000000 in
set_option maxRecDepth 100000 in
theorem g_X5_rings {E : fh_E} {M : fh_M} (C : fh_Cx E M cX5_rings 1 RX5 ((some FieldType.int)) rm_X5_rings) (Hr : fh_Rt E M) (k1 : Nat) (σ2 : fh_S) : fh_Go E M 1 fh_vI 0 [(0, .ref (fh_ad E k1))] [] σ2 (f_X5_rings k1 σ2) := by
  have hok := fh_cok C
  refine go_ob ?_
  refine go_aload_n C 0 rfl rfl dX5_rings_0 ?_
  refine go_callVI C (st := []) [] (m_X5_manyRings E _ hok k1 σ2) (fun _ h => fh_ob_ok h) rfl rfl ⟨q_960, q_962, qs_39, q_6, q_963⟩ pd_X5_manyRings rfl ⟨⟨Nat.le_of_ble_eq_true rfl, Nat.le_of_ble_eq_true rfl⟩, rfl, rfl⟩ (Nat.le_of_ble_eq_true rfl) dX5_rings_1 (fun r4 σ3 => ?_)
  exact go_iret C Hr rfl dX5_rings_4
theorem m_X5_rings (E : fh_E) (l : Launch) (hok : fh_ok E) (k1 : Nat) (σ2 : fh_S) : fh_Met E l yX5_rings cX5_rings 1 ((some FieldType.int)) rm_X5_rings fh_vI [.ref (fh_ad E k1)] σ2 (f_X5_rings k1 σ2) := fh_met hok (by decide +kernel) (Nat.le_of_ble_eq_true rfl) (fun M _ C Hr => g_X5_rings C Hr k1 σ2)
def f_X5_before_B26 (r7 : Int32) (k1 : Nat) (r11 : Int32 → Int32 → fh_S → Option (Int32 × fh_S)) : Int32 → Int32 → fh_S → Option (Int32 × fh_S) := fun x8 x9 σ10 => fh_cb (f_X5_has r7 x9 σ10) fun r13 σ12 => if r13 = 0 then fh_cb (f_X5_dialIs k1 x9 ((2 : Int32)) σ12) fun r15 σ14 => r11 (x8 + 1) r15 σ14 else some (x8, σ12)
def f_X5_before (k1 : Nat) (a2 : Int32) (σ3 : fh_S) : Option (Int32 × fh_S) := fh_ob 5 k1 (fh_cb (f_X5_isDial k1 a2 σ3) fun r5 σ4 => if r5 = 0 then fh_cb (f_X5_finding k1 ((-1000001 : Int32)) σ4) fun r17 σ16 => some (r17, σ16) else fh_cb (f_X5_ringOf k1 a2 σ4) fun r7 σ6 => fh_fx (ρ := Int32 → Int32 → fh_S → Option (Int32 × fh_S)) (fun _ _ _ => none) (f_X5_before_B26 r7 k1) fh_fu ((0 : Int32)) a2 σ6)
abbrev rm_X5_before : Room := { frames := 4, cells := 0, slots := 0, locals := 89 }
theorem pd_X5_before : yX5_before.cls ≠ "java/lang/invoke/MethodHandle" ∧ yX5_before.cls ≠ "java/lang/invoke/VarHandle" ∧ (parseMethodDescriptor yX5_before.desc).map (fun d => d.parameters.length) = some 1 := by decide +kernel
theorem dX5_before_0 : decode cX5_before 0 = .ok (.aload_n 0, 1) := by decide +kernel
theorem dX5_before_1 : decode cX5_before 1 = .ok (.iload_n 1, 1) := by decide +kernel
theorem dX5_before_2 : decode cX5_before 2 = .ok (.invokevirtual 112, 3) := by decide +kernel
theorem dX5_before_5 : decode cX5_before 5 = .ok (.ifCond .ne 10, 3) := by decide +kernel
theorem dX5_before_8 : decode cX5_before 8 = .ok (.aload_n 0, 1) := by decide +kernel
theorem dX5_before_9 : decode cX5_before 9 = .ok (.ldc 63, 2) := by decide +kernel
theorem dX5_before_11 : decode cX5_before 11 = .ok (.invokevirtual 69, 3) := by decide +kernel
theorem dX5_before_14 : decode cX5_before 14 = .ok (.ireturn, 1) := by decide +kernel
theorem dX5_before_15 : decode cX5_before 15 = .ok (.aload_n 0, 1) := by decide +kernel
theorem dX5_before_16 : decode cX5_before 16 = .ok (.iload_n 1, 1) := by decide +kernel
theorem dX5_before_17 : decode cX5_before 17 = .ok (.invokevirtual 171, 3) := by decide +kernel
theorem dX5_before_20 : decode cX5_before 20 = .ok (.istore_n 2, 1) := by decide +kernel
theorem dX5_before_21 : decode cX5_before 21 = .ok (.iconst 0, 1) := by decide +kernel
theorem dX5_before_22 : decode cX5_before 22 = .ok (.istore_n 3, 1) := by decide +kernel
theorem dX5_before_23 : decode cX5_before 23 = .ok (.iload_n 1, 1) := by decide +kernel
theorem dX5_before_24 : decode cX5_before 24 = .ok (.istore 4, 2) := by decide +kernel
theorem dX5_before_26 : decode cX5_before 26 = .ok (.iload_n 2, 1) := by decide +kernel
theorem dX5_before_27 : decode cX5_before 27 = .ok (.iload 4, 2) := by decide +kernel
theorem dX5_before_29 : decode cX5_before 29 = .ok (.invokestatic 165, 3) := by decide +kernel
theorem dX5_before_32 : decode cX5_before 32 = .ok (.ifCond .ne 18, 3) := by decide +kernel
theorem dX5_before_35 : decode cX5_before 35 = .ok (.iinc 3 1, 3) := by decide +kernel
theorem dX5_before_38 : decode cX5_before 38 = .ok (.aload_n 0, 1) := by decide +kernel
theorem dX5_before_39 : decode cX5_before 39 = .ok (.iload 4, 2) := by decide +kernel
theorem dX5_before_41 : decode cX5_before 41 = .ok (.iconst 2, 1) := by decide +kernel
theorem dX5_before_42 : decode cX5_before 42 = .ok (.invokevirtual 81, 3) := by decide +kernel
theorem dX5_before_45 : decode cX5_before 45 = .ok (.istore 4, 2) := by decide +kernel
theorem dX5_before_47 : decode cX5_before 47 = .ok (.goto (-21), 3) := by decide +kernel
theorem dX5_before_50 : decode cX5_before 50 = .ok (.iload_n 3, 1) := by decide +kernel
theorem dX5_before_51 : decode cX5_before 51 = .ok (.ireturn, 1) := by decide +kernel
set_option maxHeartbeats 4000000 in
set_option maxRecDepth 100000 in
theorem g_X5_before {E : fh_E} {M : fh_M} (C : fh_Cx E M cX5_before 5 RX5 ((some FieldType.int)) rm_X5_before) (Hr : fh_Rt E M) (k1 : Nat) (a2 : Int32) (σ3 : fh_S) : fh_Go E M 5 fh_vI 0 [(0, .ref (fh_ad E k1)), (1, .int a2)] [] σ3 (f_X5_before k1 a2 σ3) := by
  have hok := fh_cok C
  refine go_ob ?_
  refine go_aload_n C 0 rfl rfl dX5_before_0 ?_
  refine go_iload_n C 1 rfl rfl dX5_before_1 ?_
  refine go_callVI C (st := []) [.int a2] (m_X5_isDial E _ hok k1 a2 σ3) (fun _ h => fh_ob_ok h) rfl rfl ⟨q_837, q_839, qs_21, q_6, q_840⟩ pd_X5_isDial rfl ⟨⟨Nat.le_of_ble_eq_true rfl, Nat.le_of_ble_eq_true rfl⟩, rfl, rfl⟩ (Nat.le_of_ble_eq_true rfl) dX5_before_2 (fun r5 σ4 => ?_)
  refine go_if_ne (tgt := 15) C dX5_before_5 rfl (fun _ => ?_) (fun _ => ?_)
  · refine go_aload_n C 0 rfl rfl dX5_before_15 ?_
    refine go_iload_n C 1 rfl rfl dX5_before_16 ?_
    refine go_callVI C (st := []) [.int a2] (m_X5_ringOf E _ hok k1 a2 σ4) (fun _ h => fh_ob_ok h) rfl rfl ⟨q_952, q_954, qs_38, q_6, q_955⟩ pd_X5_ringOf rfl ⟨⟨Nat.le_of_ble_eq_true rfl, Nat.le_of_ble_eq_true rfl⟩, rfl, rfl⟩ (Nat.le_of_ble_eq_true rfl) dX5_before_17 (fun r7 σ6 => ?_)
    refine go_istore_n C [(2, .int r7), (0, .ref (fh_ad E k1)), (1, .int a2)] rfl rfl (by decide) dX5_before_20 ?_
    refine go_iconst C (0 : Int32) dX5_before_21 rfl ?_
    refine go_istore_n C [(3, .int ((0 : Int32))), (2, .int r7), (0, .ref (fh_ad E k1)), (1, .int a2)] rfl rfl (by decide) dX5_before_22 ?_
    refine go_iload_n C 3 rfl rfl dX5_before_23 ?_
    refine go_istore C [(4, .int a2), (3, .int ((0 : Int32))), (2, .int r7), (0, .ref (fh_ad E k1)), (1, .int a2)] rfl (by decide) dX5_before_24 ?_
    refine go_lv [3, 2, 1, 0] (lv' := [(0, .ref (fh_ad E k1)), (2, .int r7), (3, .int ((0 : Int32))), (4, .int a2)]) rfl ?_
    refine go_fx (fun (r11 : Int32 → Int32 → fh_S → Option (Int32 × fh_S)) => ∀ (x8 : Int32) (x9 : Int32) (σ10 : fh_S), fh_Go E M 5 fh_vI 26 [(0, .ref (fh_ad E k1)), (2, .int r7), (3, .int x8), (4, .int x9)] [] σ10 (r11 x8 x9 σ10)) ?_ ?_ fh_fu ((0 : Int32)) a2 σ6
    · intro x8 x9 σ10
      exact go_none
    · intro r11 hr11 x8 x9 σ10
      refine go_iload_n C 1 rfl rfl dX5_before_26 ?_
      refine go_iload C 3 rfl dX5_before_27 ?_
      refine go_callSI C (st := []) [.int r7, .int x9] (m_X5_has E _ hok r7 x9 σ10) rfl ⟨q_945, q_946, q_6, q_947⟩ pd_X5_has rfl ⟨⟨Nat.le_of_ble_eq_true rfl, Nat.le_of_ble_eq_true rfl⟩, rfl, rfl⟩ (Nat.le_of_ble_eq_true rfl) dX5_before_29 (fun r13 σ12 => ?_)
      refine go_if_ne (tgt := 50) C dX5_before_32 rfl (fun _ => ?_) (fun _ => ?_)
      · refine go_iload_n C 2 rfl rfl dX5_before_50 ?_
        exact go_iret C Hr rfl dX5_before_51
      · refine go_iinc C (x8 + 1) 2 [(3, .int (x8 + 1)), (0, .ref (fh_ad E k1)), (2, .int r7), (4, .int x9)] rfl rfl rfl (by decide) dX5_before_35 ?_
        refine go_aload_n C 1 rfl rfl dX5_before_38 ?_
        refine go_iload C 3 rfl dX5_before_39 ?_
        refine go_iconst C (2 : Int32) dX5_before_41 rfl ?_
        refine go_callVI C (st := []) [.int x9, .int ((2 : Int32))] (m_X5_dialIs E _ hok k1 x9 ((2 : Int32)) σ12) (fun _ h => fh_ob_ok h) rfl rfl ⟨q_849, q_851, qs_24, q_6, q_852⟩ pd_X5_dialIs rfl ⟨⟨Nat.le_of_ble_eq_true rfl, Nat.le_of_ble_eq_true rfl⟩, rfl, rfl⟩ (Nat.le_of_ble_eq_true rfl) dX5_before_42 (fun r15 σ14 => ?_)
        refine go_istore C [(4, .int r15), (3, .int (x8 + 1)), (0, .ref (fh_ad E k1)), (2, .int r7)] rfl (by decide) dX5_before_45 ?_
        refine go_goto C 26 dX5_before_47 rfl ?_
        refine go_lv [2, 3, 1, 0] (lv' := [(0, .ref (fh_ad E k1)), (2, .int r7), (3, .int (x8 + 1)), (4, .int r15)]) rfl ?_
        exact hr11 (x8 + 1) r15 σ14
  · refine go_aload_n C 0 rfl rfl dX5_before_8 ?_
    refine go_ldc C q_820 dX5_before_9 ?_
    refine go_callVI C (st := []) [.int ((-1000001 : Int32))] (m_X5_finding E _ hok k1 ((-1000001 : Int32)) σ4) (fun _ h => fh_ob_ok h) rfl rfl ⟨q_821, q_823, qs_19, q_6, q_824⟩ pd_X5_finding rfl ⟨⟨Nat.le_of_ble_eq_true rfl, Nat.le_of_ble_eq_true rfl⟩, rfl, rfl⟩ (Nat.le_of_ble_eq_true rfl) dX5_before_11 (fun r17 σ16 => ?_)
    exact go_iret C Hr rfl dX5_before_14
theorem m_X5_before (E : fh_E) (l : Launch) (hok : fh_ok E) (k1 : Nat) (a2 : Int32) (σ3 : fh_S) : fh_Met E l yX5_before cX5_before 5 ((some FieldType.int)) rm_X5_before fh_vI [.ref (fh_ad E k1), .int a2] σ3 (f_X5_before k1 a2 σ3) := fh_met hok (by decide +kernel) (Nat.le_of_ble_eq_true rfl) (fun M _ C Hr => g_X5_before C Hr k1 a2 σ3)
def f_X5_underOf_J34 (r7 : Int32 → Int32 → fh_S → Option (Int32 × fh_S)) (x4 : Int32) (x5 : Int32) : Int32 → fh_S → Option (Int32 × fh_S) := fun x14 σ15 => r7 (x4 ||| x14) (x5 + 1) σ15
def f_X5_underOf_B4 (k1 : Nat) (a2 : Int32) (r7 : Int32 → Int32 → fh_S → Option (Int32 × fh_S)) : Int32 → Int32 → fh_S → Option (Int32 × fh_S) := fun x4 x5 σ6 => (fh_gr 5 k1 0).bind fun k8 => (fh_ld σ6 k8 ((1 : Int32))).bind fun v9 => if v9 ≤ x5 then some (x4, σ6) else fh_cb (f_X5_wayOf k1 x5 σ6) fun r11 σ10 => fh_cb (f_X5_has r11 a2 σ10) fun r13 σ12 => fh_jn (f_X5_underOf_J34 r7 x4 x5) (fun j16 => if r13 = 0 then j16 ((0 : Int32)) σ12 else j16 (((1 : Int32)) <<< (x5 &&& 31)) σ12)
def f_X5_underOf (k1 : Nat) (a2 : Int32) (σ3 : fh_S) : Option (Int32 × fh_S) := fh_ob 5 k1 (fh_fx (ρ := Int32 → Int32 → fh_S → Option (Int32 × fh_S)) (fun _ _ _ => none) (f_X5_underOf_B4 k1 a2) fh_fu ((0 : Int32)) ((0 : Int32)) σ3)
abbrev rm_X5_underOf : Room := { frames := 3, cells := 0, slots := 0, locals := 66 }
theorem pd_X5_underOf : yX5_underOf.cls ≠ "java/lang/invoke/MethodHandle" ∧ yX5_underOf.cls ≠ "java/lang/invoke/VarHandle" ∧ (parseMethodDescriptor yX5_underOf.desc).map (fun d => d.parameters.length) = some 1 := by decide +kernel
theorem dX5_underOf_0 : decode cX5_underOf 0 = .ok (.iconst 0, 1) := by decide +kernel
theorem dX5_underOf_1 : decode cX5_underOf 1 = .ok (.istore_n 2, 1) := by decide +kernel
theorem dX5_underOf_2 : decode cX5_underOf 2 = .ok (.iconst 0, 1) := by decide +kernel
theorem dX5_underOf_3 : decode cX5_underOf 3 = .ok (.istore_n 3, 1) := by decide +kernel
theorem dX5_underOf_4 : decode cX5_underOf 4 = .ok (.iload_n 3, 1) := by decide +kernel
theorem dX5_underOf_5 : decode cX5_underOf 5 = .ok (.aload_n 0, 1) := by decide +kernel
theorem dX5_underOf_6 : decode cX5_underOf 6 = .ok (.getfield 9, 3) := by decide +kernel
theorem dX5_underOf_9 : decode cX5_underOf 9 = .ok (.iconst 1, 1) := by decide +kernel
theorem dX5_underOf_10 : decode cX5_underOf 10 = .ok (.iaload, 1) := by decide +kernel
theorem dX5_underOf_11 : decode cX5_underOf 11 = .ok (.if_icmp .ge 31, 3) := by decide +kernel
theorem dX5_underOf_14 : decode cX5_underOf 14 = .ok (.iload_n 2, 1) := by decide +kernel
theorem dX5_underOf_15 : decode cX5_underOf 15 = .ok (.aload_n 0, 1) := by decide +kernel
theorem dX5_underOf_16 : decode cX5_underOf 16 = .ok (.iload_n 3, 1) := by decide +kernel
theorem dX5_underOf_17 : decode cX5_underOf 17 = .ok (.invokevirtual 168, 3) := by decide +kernel
theorem dX5_underOf_20 : decode cX5_underOf 20 = .ok (.iload_n 1, 1) := by decide +kernel
theorem dX5_underOf_21 : decode cX5_underOf 21 = .ok (.invokestatic 165, 3) := by decide +kernel
theorem dX5_underOf_24 : decode cX5_underOf 24 = .ok (.ifCond .eq 9, 3) := by decide +kernel
theorem dX5_underOf_27 : decode cX5_underOf 27 = .ok (.iconst 1, 1) := by decide +kernel
theorem dX5_underOf_28 : decode cX5_underOf 28 = .ok (.iload_n 3, 1) := by decide +kernel
theorem dX5_underOf_29 : decode cX5_underOf 29 = .ok (.ishl, 1) := by decide +kernel
theorem dX5_underOf_30 : decode cX5_underOf 30 = .ok (.goto 4, 3) := by decide +kernel
theorem dX5_underOf_33 : decode cX5_underOf 33 = .ok (.iconst 0, 1) := by decide +kernel
theorem dX5_underOf_34 : decode cX5_underOf 34 = .ok (.ior, 1) := by decide +kernel
theorem dX5_underOf_35 : decode cX5_underOf 35 = .ok (.istore_n 2, 1) := by decide +kernel
theorem dX5_underOf_36 : decode cX5_underOf 36 = .ok (.iinc 3 1, 3) := by decide +kernel
theorem dX5_underOf_39 : decode cX5_underOf 39 = .ok (.goto (-35), 3) := by decide +kernel
theorem dX5_underOf_42 : decode cX5_underOf 42 = .ok (.iload_n 2, 1) := by decide +kernel
theorem dX5_underOf_43 : decode cX5_underOf 43 = .ok (.ireturn, 1) := by decide +kernel
set_option maxHeartbeats 4000000 in
set_option maxRecDepth 100000 in
theorem g_X5_underOf {E : fh_E} {M : fh_M} (C : fh_Cx E M cX5_underOf 4 RX5 ((some FieldType.int)) rm_X5_underOf) (Hr : fh_Rt E M) (k1 : Nat) (a2 : Int32) (σ3 : fh_S) : fh_Go E M 4 fh_vI 0 [(0, .ref (fh_ad E k1)), (1, .int a2)] [] σ3 (f_X5_underOf k1 a2 σ3) := by
  have hok := fh_cok C
  refine go_ob ?_
  refine go_iconst C (0 : Int32) dX5_underOf_0 rfl ?_
  refine go_istore_n C [(2, .int ((0 : Int32))), (0, .ref (fh_ad E k1)), (1, .int a2)] rfl rfl (by decide) dX5_underOf_1 ?_
  refine go_iconst C (0 : Int32) dX5_underOf_2 rfl ?_
  refine go_istore_n C [(3, .int ((0 : Int32))), (2, .int ((0 : Int32))), (0, .ref (fh_ad E k1)), (1, .int a2)] rfl rfl (by decide) dX5_underOf_3 ?_
  refine go_lv [2, 3, 1, 0] (lv' := [(0, .ref (fh_ad E k1)), (1, .int a2), (2, .int ((0 : Int32))), (3, .int ((0 : Int32)))]) rfl ?_
  refine go_fx (fun (r7 : Int32 → Int32 → fh_S → Option (Int32 × fh_S)) => ∀ (x4 : Int32) (x5 : Int32) (σ6 : fh_S), fh_Go E M 4 fh_vI 4 [(0, .ref (fh_ad E k1)), (1, .int a2), (2, .int x4), (3, .int x5)] [] σ6 (r7 x4 x5 σ6)) ?_ ?_ fh_fu ((0 : Int32)) ((0 : Int32)) σ3
  · intro x4 x5 σ6
    exact go_none
  · intro r7 hr7 x4 x5 σ6
    refine go_iload_n C 3 rfl rfl dX5_underOf_4 ?_
    refine go_aload_n C 0 rfl rfl dX5_underOf_5 ?_
    refine go_gr (ci := 5) (j := 0) C fh_in5 rfl (by decide) rfl q_746 dX5_underOf_6 (fun k8 => ?_)
    refine go_iconst C (1 : Int32) dX5_underOf_9 rfl ?_
    refine go_iald C dX5_underOf_10 (fun v9 => ?_)
    refine go_icmp_ge (tgt := 42) C dX5_underOf_11 rfl (fun _ => ?_) (fun _ => ?_)
    · refine go_iload_n C 2 rfl rfl dX5_underOf_42 ?_
      exact go_iret C Hr rfl dX5_underOf_43
    · refine go_iload_n C 2 rfl rfl dX5_underOf_14 ?_
      refine go_aload_n C 0 rfl rfl dX5_underOf_15 ?_
      refine go_iload_n C 3 rfl rfl dX5_underOf_16 ?_
      refine go_callVI C (st := [.int x4]) [.int x5] (m_X5_wayOf E _ hok k1 x5 σ6) (fun _ h => fh_ob_ok h) rfl rfl ⟨q_941, q_943, qs_37, q_6, q_944⟩ pd_X5_wayOf rfl ⟨⟨Nat.le_of_ble_eq_true rfl, Nat.le_of_ble_eq_true rfl⟩, rfl, rfl⟩ (Nat.le_of_ble_eq_true rfl) dX5_underOf_17 (fun r11 σ10 => ?_)
      refine go_iload_n C 1 rfl rfl dX5_underOf_20 ?_
      refine go_callSI C (st := [.int x4]) [.int r11, .int a2] (m_X5_has E _ hok r11 a2 σ10) rfl ⟨q_945, q_946, q_6, q_947⟩ pd_X5_has rfl ⟨⟨Nat.le_of_ble_eq_true rfl, Nat.le_of_ble_eq_true rfl⟩, rfl, rfl⟩ (Nat.le_of_ble_eq_true rfl) dX5_underOf_21 (fun r13 σ12 => ?_)
      refine go_jn (fun (j16 : Int32 → fh_S → Option (Int32 × fh_S)) => ∀ (x14 : Int32) (σ15 : fh_S), fh_Go E M 4 fh_vI 34 [(0, .ref (fh_ad E k1)), (1, .int a2), (3, .int x5)] [.int x14, .int x4] σ15 (j16 x14 σ15)) ?_ (fun j16 hj16 => ?_)
      · intro x14 σ15
        refine go_ior C dX5_underOf_34 ?_
        refine go_istore_n C [(2, .int (x4 ||| x14)), (0, .ref (fh_ad E k1)), (1, .int a2), (3, .int x5)] rfl rfl (by decide) dX5_underOf_35 ?_
        refine go_iinc C (x5 + 1) 3 [(3, .int (x5 + 1)), (2, .int (x4 ||| x14)), (0, .ref (fh_ad E k1)), (1, .int a2)] rfl rfl rfl (by decide) dX5_underOf_36 ?_
        refine go_goto C 4 dX5_underOf_39 rfl ?_
        refine go_lv [2, 3, 1, 0] (lv' := [(0, .ref (fh_ad E k1)), (1, .int a2), (2, .int (x4 ||| x14)), (3, .int (x5 + 1))]) rfl ?_
        exact hr7 (x4 ||| x14) (x5 + 1) σ15
      refine go_if_eq (tgt := 33) C dX5_underOf_24 rfl (fun _ => ?_) (fun _ => ?_)
      · refine go_iconst C (0 : Int32) dX5_underOf_33 rfl ?_
        refine go_lv [0, 1, 3] (lv' := [(0, .ref (fh_ad E k1)), (1, .int a2), (3, .int x5)]) rfl ?_
        exact hj16 ((0 : Int32)) σ12
      · refine go_iconst C (1 : Int32) dX5_underOf_27 rfl ?_
        refine go_iload_n C 3 rfl rfl dX5_underOf_28 ?_
        refine go_ishl C dX5_underOf_29 ?_
        refine go_goto C 34 dX5_underOf_30 rfl ?_
        refine go_lv [0, 1, 3] (lv' := [(0, .ref (fh_ad E k1)), (1, .int a2), (3, .int x5)]) rfl ?_
        exact hj16 (((1 : Int32)) <<< (x5 &&& 31)) σ12
theorem m_X5_underOf (E : fh_E) (l : Launch) (hok : fh_ok E) (k1 : Nat) (a2 : Int32) (σ3 : fh_S) : fh_Met E l yX5_underOf cX5_underOf 4 ((some FieldType.int)) rm_X5_underOf fh_vI [.ref (fh_ad E k1), .int a2] σ3 (f_X5_underOf k1 a2 σ3) := fh_met hok (by decide +kernel) (Nat.le_of_ble_eq_true rfl) (fun M _ C Hr => g_X5_underOf C Hr k1 a2 σ3)
def f_X5_under (k1 : Nat) (a2 : Int32) (σ3 : fh_S) : Option (Int32 × fh_S) := fh_ob 5 k1 (fh_cb (f_X5_isDial k1 a2 σ3) fun r5 σ4 => if r5 = 0 then fh_cb (f_X5_finding k1 ((-1000001 : Int32)) σ4) fun r7 σ6 => some (r7, σ6) else fh_cb (f_X5_underOf k1 a2 σ4) fun r9 σ8 => some (r9, σ8))
abbrev rm_X5_under : Room := { frames := 4, cells := 0, slots := 0, locals := 89 }
theorem pd_X5_under : yX5_under.cls ≠ "java/lang/invoke/MethodHandle" ∧ yX5_under.cls ≠ "java/lang/invoke/VarHandle" ∧ (parseMethodDescriptor yX5_under.desc).map (fun d => d.parameters.length) = some 1 := by decide +kernel
theorem dX5_under_0 : decode cX5_under 0 = .ok (.aload_n 0, 1) := by decide +kernel
theorem dX5_under_1 : decode cX5_under 1 = .ok (.iload_n 1, 1) := by decide +kernel
theorem dX5_under_2 : decode cX5_under 2 = .ok (.invokevirtual 112, 3) := by decide +kernel
theorem dX5_under_5 : decode cX5_under 5 = .ok (.ifCond .eq 11, 3) := by decide +kernel
theorem dX5_under_8 : decode cX5_under 8 = .ok (.aload_n 0, 1) := by decide +kernel
theorem dX5_under_9 : decode cX5_under 9 = .ok (.iload_n 1, 1) := by decide +kernel
theorem dX5_under_10 : decode cX5_under 10 = .ok (.invokevirtual 177, 3) := by decide +kernel
theorem dX5_under_13 : decode cX5_under 13 = .ok (.goto 9, 3) := by decide +kernel
theorem dX5_under_16 : decode cX5_under 16 = .ok (.aload_n 0, 1) := by decide +kernel
theorem dX5_under_17 : decode cX5_under 17 = .ok (.ldc 63, 2) := by decide +kernel
theorem dX5_under_19 : decode cX5_under 19 = .ok (.invokevirtual 69, 3) := by decide +kernel
theorem dX5_under_22 : decode cX5_under 22 = .ok (.ireturn, 1) := by decide +kernel
set_option maxHeartbeats 4000000 in
set_option maxRecDepth 100000 in
theorem g_X5_under {E : fh_E} {M : fh_M} (C : fh_Cx E M cX5_under 2 RX5 ((some FieldType.int)) rm_X5_under) (Hr : fh_Rt E M) (k1 : Nat) (a2 : Int32) (σ3 : fh_S) : fh_Go E M 2 fh_vI 0 [(0, .ref (fh_ad E k1)), (1, .int a2)] [] σ3 (f_X5_under k1 a2 σ3) := by
  have hok := fh_cok C
  refine go_ob ?_
  refine go_aload_n C 0 rfl rfl dX5_under_0 ?_
  refine go_iload_n C 1 rfl rfl dX5_under_1 ?_
  refine go_callVI C (st := []) [.int a2] (m_X5_isDial E _ hok k1 a2 σ3) (fun _ h => fh_ob_ok h) rfl rfl ⟨q_837, q_839, qs_21, q_6, q_840⟩ pd_X5_isDial rfl ⟨⟨Nat.le_of_ble_eq_true rfl, Nat.le_of_ble_eq_true rfl⟩, rfl, rfl⟩ (Nat.le_of_ble_eq_true rfl) dX5_under_2 (fun r5 σ4 => ?_)
  refine go_if_eq (tgt := 16) C dX5_under_5 rfl (fun _ => ?_) (fun _ => ?_)
  · refine go_aload_n C 0 rfl rfl dX5_under_16 ?_
    refine go_ldc C q_820 dX5_under_17 ?_
    refine go_callVI C (st := []) [.int ((-1000001 : Int32))] (m_X5_finding E _ hok k1 ((-1000001 : Int32)) σ4) (fun _ h => fh_ob_ok h) rfl rfl ⟨q_821, q_823, qs_19, q_6, q_824⟩ pd_X5_finding rfl ⟨⟨Nat.le_of_ble_eq_true rfl, Nat.le_of_ble_eq_true rfl⟩, rfl, rfl⟩ (Nat.le_of_ble_eq_true rfl) dX5_under_19 (fun r7 σ6 => ?_)
    exact go_iret C Hr rfl dX5_under_22
  · refine go_aload_n C 0 rfl rfl dX5_under_8 ?_
    refine go_iload_n C 1 rfl rfl dX5_under_9 ?_
    refine go_callVI C (st := []) [.int a2] (m_X5_underOf E _ hok k1 a2 σ4) (fun _ h => fh_ob_ok h) rfl rfl ⟨q_972, q_974, qs_40, q_6, q_975⟩ pd_X5_underOf rfl ⟨⟨Nat.le_of_ble_eq_true rfl, Nat.le_of_ble_eq_true rfl⟩, rfl, rfl⟩ (Nat.le_of_ble_eq_true rfl) dX5_under_10 (fun r9 σ8 => ?_)
    refine go_goto C 22 dX5_under_13 rfl ?_
    exact go_iret C Hr rfl dX5_under_22
theorem m_X5_under (E : fh_E) (l : Launch) (hok : fh_ok E) (k1 : Nat) (a2 : Int32) (σ3 : fh_S) : fh_Met E l yX5_under cX5_under 2 ((some FieldType.int)) rm_X5_under fh_vI [.ref (fh_ad E k1), .int a2] σ3 (f_X5_under k1 a2 σ3) := fh_met hok (by decide +kernel) (Nat.le_of_ble_eq_true rfl) (fun M _ C Hr => g_X5_under C Hr k1 a2 σ3)
def f_X5_greatest_J37 (x4 : Int32) (r15 : Int32) (r7 : Int32 → Int32 → Int32 → fh_S → Option (Int32 × fh_S)) (x5 : Int32) : Int32 → fh_S → Option (Int32 × fh_S) := fun x16 σ17 => fh_cb (f_J9_max_7cf53 x4 r15 σ17) fun r19 σ18 => r7 x16 r19 (x5 + 1) σ18
def f_X5_greatest_B6 (k1 : Nat) (r7 : Int32 → Int32 → Int32 → fh_S → Option (Int32 × fh_S)) : Int32 → Int32 → Int32 → fh_S → Option (Int32 × fh_S) := fun x3 x4 x5 σ6 => (fh_gr 5 k1 0).bind fun k8 => (fh_ld σ6 k8 ((1 : Int32))).bind fun v9 => if v9 ≤ x5 then fh_cb (f_X5_orNone k1 x3 σ6) fun r11 σ10 => some (r11, σ10) else fh_cb (f_X5_underOf k1 x5 σ6) fun r13 σ12 => fh_cb (f_X5_bits r13 σ12) fun r15 σ14 => fh_jn (f_X5_greatest_J37 x4 r15 r7 x5) (fun j20 => if r15 ≤ x4 then j20 x3 σ14 else j20 x5 σ14)
def f_X5_greatest (k1 : Nat) (σ2 : fh_S) : Option (Int32 × fh_S) := fh_ob 5 k1 (fh_fx (ρ := Int32 → Int32 → Int32 → fh_S → Option (Int32 × fh_S)) (fun _ _ _ _ => none) (f_X5_greatest_B6 k1) fh_fu ((-1 : Int32)) ((-1 : Int32)) ((0 : Int32)) σ2)
abbrev rm_X5_greatest : Room := { frames := 4, cells := 0, slots := 0, locals := 89 }
theorem pd_X5_greatest : yX5_greatest.cls ≠ "java/lang/invoke/MethodHandle" ∧ yX5_greatest.cls ≠ "java/lang/invoke/VarHandle" ∧ (parseMethodDescriptor yX5_greatest.desc).map (fun d => d.parameters.length) = some 0 := by decide +kernel
theorem dX5_greatest_0 : decode cX5_greatest 0 = .ok (.iconst (-1), 1) := by decide +kernel
theorem dX5_greatest_1 : decode cX5_greatest 1 = .ok (.istore_n 1, 1) := by decide +kernel
theorem dX5_greatest_2 : decode cX5_greatest 2 = .ok (.iconst (-1), 1) := by decide +kernel
theorem dX5_greatest_3 : decode cX5_greatest 3 = .ok (.istore_n 2, 1) := by decide +kernel
theorem dX5_greatest_4 : decode cX5_greatest 4 = .ok (.iconst 0, 1) := by decide +kernel
theorem dX5_greatest_5 : decode cX5_greatest 5 = .ok (.istore_n 3, 1) := by decide +kernel
theorem dX5_greatest_6 : decode cX5_greatest 6 = .ok (.iload_n 3, 1) := by decide +kernel
theorem dX5_greatest_7 : decode cX5_greatest 7 = .ok (.aload_n 0, 1) := by decide +kernel
theorem dX5_greatest_8 : decode cX5_greatest 8 = .ok (.getfield 9, 3) := by decide +kernel
theorem dX5_greatest_11 : decode cX5_greatest 11 = .ok (.iconst 1, 1) := by decide +kernel
theorem dX5_greatest_12 : decode cX5_greatest 12 = .ok (.iaload, 1) := by decide +kernel
theorem dX5_greatest_13 : decode cX5_greatest 13 = .ok (.if_icmp .ge 38, 3) := by decide +kernel
theorem dX5_greatest_16 : decode cX5_greatest 16 = .ok (.aload_n 0, 1) := by decide +kernel
theorem dX5_greatest_17 : decode cX5_greatest 17 = .ok (.iload_n 3, 1) := by decide +kernel
theorem dX5_greatest_18 : decode cX5_greatest 18 = .ok (.invokevirtual 177, 3) := by decide +kernel
theorem dX5_greatest_21 : decode cX5_greatest 21 = .ok (.invokestatic 146, 3) := by decide +kernel
theorem dX5_greatest_24 : decode cX5_greatest 24 = .ok (.istore 4, 2) := by decide +kernel
theorem dX5_greatest_26 : decode cX5_greatest 26 = .ok (.iload 4, 2) := by decide +kernel
theorem dX5_greatest_28 : decode cX5_greatest 28 = .ok (.iload_n 2, 1) := by decide +kernel
theorem dX5_greatest_29 : decode cX5_greatest 29 = .ok (.if_icmp .le 7, 3) := by decide +kernel
theorem dX5_greatest_32 : decode cX5_greatest 32 = .ok (.iload_n 3, 1) := by decide +kernel
theorem dX5_greatest_33 : decode cX5_greatest 33 = .ok (.goto 4, 3) := by decide +kernel
theorem dX5_greatest_36 : decode cX5_greatest 36 = .ok (.iload_n 1, 1) := by decide +kernel
theorem dX5_greatest_37 : decode cX5_greatest 37 = .ok (.istore_n 1, 1) := by decide +kernel
theorem dX5_greatest_38 : decode cX5_greatest 38 = .ok (.iload_n 2, 1) := by decide +kernel
theorem dX5_greatest_39 : decode cX5_greatest 39 = .ok (.iload 4, 2) := by decide +kernel
theorem dX5_greatest_41 : decode cX5_greatest 41 = .ok (.invokestatic 104, 3) := by decide +kernel
theorem dX5_greatest_44 : decode cX5_greatest 44 = .ok (.istore_n 2, 1) := by decide +kernel
theorem dX5_greatest_45 : decode cX5_greatest 45 = .ok (.iinc 3 1, 3) := by decide +kernel
theorem dX5_greatest_48 : decode cX5_greatest 48 = .ok (.goto (-42), 3) := by decide +kernel
theorem dX5_greatest_51 : decode cX5_greatest 51 = .ok (.aload_n 0, 1) := by decide +kernel
theorem dX5_greatest_52 : decode cX5_greatest 52 = .ok (.iload_n 1, 1) := by decide +kernel
theorem dX5_greatest_53 : decode cX5_greatest 53 = .ok (.invokevirtual 180, 3) := by decide +kernel
theorem dX5_greatest_56 : decode cX5_greatest 56 = .ok (.ireturn, 1) := by decide +kernel
set_option maxHeartbeats 4000000 in
set_option maxRecDepth 100000 in
theorem g_X5_greatest {E : fh_E} {M : fh_M} (C : fh_Cx E M cX5_greatest 5 RX5 ((some FieldType.int)) rm_X5_greatest) (Hr : fh_Rt E M) (k1 : Nat) (σ2 : fh_S) : fh_Go E M 5 fh_vI 0 [(0, .ref (fh_ad E k1))] [] σ2 (f_X5_greatest k1 σ2) := by
  have hok := fh_cok C
  refine go_ob ?_
  refine go_iconst C (-1 : Int32) dX5_greatest_0 rfl ?_
  refine go_istore_n C [(1, .int ((-1 : Int32))), (0, .ref (fh_ad E k1))] rfl rfl (by decide) dX5_greatest_1 ?_
  refine go_iconst C (-1 : Int32) dX5_greatest_2 rfl ?_
  refine go_istore_n C [(2, .int ((-1 : Int32))), (1, .int ((-1 : Int32))), (0, .ref (fh_ad E k1))] rfl rfl (by decide) dX5_greatest_3 ?_
  refine go_iconst C (0 : Int32) dX5_greatest_4 rfl ?_
  refine go_istore_n C [(3, .int ((0 : Int32))), (2, .int ((-1 : Int32))), (1, .int ((-1 : Int32))), (0, .ref (fh_ad E k1))] rfl rfl (by decide) dX5_greatest_5 ?_
  refine go_lv [3, 2, 1, 0] (lv' := [(0, .ref (fh_ad E k1)), (1, .int ((-1 : Int32))), (2, .int ((-1 : Int32))), (3, .int ((0 : Int32)))]) rfl ?_
  refine go_fx (fun (r7 : Int32 → Int32 → Int32 → fh_S → Option (Int32 × fh_S)) => ∀ (x3 : Int32) (x4 : Int32) (x5 : Int32) (σ6 : fh_S), fh_Go E M 5 fh_vI 6 [(0, .ref (fh_ad E k1)), (1, .int x3), (2, .int x4), (3, .int x5)] [] σ6 (r7 x3 x4 x5 σ6)) ?_ ?_ fh_fu ((-1 : Int32)) ((-1 : Int32)) ((0 : Int32)) σ2
  · intro x3 x4 x5 σ6
    exact go_none
  · intro r7 hr7 x3 x4 x5 σ6
    refine go_iload_n C 3 rfl rfl dX5_greatest_6 ?_
    refine go_aload_n C 0 rfl rfl dX5_greatest_7 ?_
    refine go_gr (ci := 5) (j := 0) C fh_in5 rfl (by decide) rfl q_746 dX5_greatest_8 (fun k8 => ?_)
    refine go_iconst C (1 : Int32) dX5_greatest_11 rfl ?_
    refine go_iald C dX5_greatest_12 (fun v9 => ?_)
    refine go_icmp_ge (tgt := 51) C dX5_greatest_13 rfl (fun _ => ?_) (fun _ => ?_)
    · refine go_aload_n C 0 rfl rfl dX5_greatest_51 ?_
      refine go_iload_n C 1 rfl rfl dX5_greatest_52 ?_
      refine go_callVI C (st := []) [.int x3] (m_X5_orNone E _ hok k1 x3 σ6) (fun _ h => fh_ob_ok h) rfl rfl ⟨q_980, q_982, qs_41, q_6, q_983⟩ pd_X5_orNone rfl ⟨⟨Nat.le_of_ble_eq_true rfl, Nat.le_of_ble_eq_true rfl⟩, rfl, rfl⟩ (Nat.le_of_ble_eq_true rfl) dX5_greatest_53 (fun r11 σ10 => ?_)
      exact go_iret C Hr rfl dX5_greatest_56
    · refine go_aload_n C 0 rfl rfl dX5_greatest_16 ?_
      refine go_iload_n C 3 rfl rfl dX5_greatest_17 ?_
      refine go_callVI C (st := []) [.int x5] (m_X5_underOf E _ hok k1 x5 σ6) (fun _ h => fh_ob_ok h) rfl rfl ⟨q_972, q_974, qs_40, q_6, q_975⟩ pd_X5_underOf rfl ⟨⟨Nat.le_of_ble_eq_true rfl, Nat.le_of_ble_eq_true rfl⟩, rfl, rfl⟩ (Nat.le_of_ble_eq_true rfl) dX5_greatest_18 (fun r13 σ12 => ?_)
      refine go_callSI C (st := []) [.int r13] (m_X5_bits E _ hok r13 σ12) rfl ⟨q_934, q_935, q_6, q_936⟩ pd_X5_bits rfl ⟨⟨Nat.le_of_ble_eq_true rfl, Nat.le_of_ble_eq_true rfl⟩, rfl, rfl⟩ (Nat.le_of_ble_eq_true rfl) dX5_greatest_21 (fun r15 σ14 => ?_)
      refine go_istore C [(4, .int r15), (0, .ref (fh_ad E k1)), (1, .int x3), (2, .int x4), (3, .int x5)] rfl (by decide) dX5_greatest_24 ?_
      refine go_iload C 0 rfl dX5_greatest_26 ?_
      refine go_iload_n C 3 rfl rfl dX5_greatest_28 ?_
      refine go_jn (fun (j20 : Int32 → fh_S → Option (Int32 × fh_S)) => ∀ (x16 : Int32) (σ17 : fh_S), fh_Go E M 5 fh_vI 37 [(0, .ref (fh_ad E k1)), (2, .int x4), (3, .int x5), (4, .int r15)] [.int x16] σ17 (j20 x16 σ17)) ?_ (fun j20 hj20 => ?_)
      · intro x16 σ17
        refine go_istore_n C [(1, .int x16), (0, .ref (fh_ad E k1)), (2, .int x4), (3, .int x5), (4, .int r15)] rfl rfl (by decide) dX5_greatest_37 ?_
        refine go_iload_n C 2 rfl rfl dX5_greatest_38 ?_
        refine go_iload C 4 rfl dX5_greatest_39 ?_
        refine go_callSI C (st := []) [.int x4, .int r15] (m_J9_max_7cf53 E _ hok x4 r15 σ17) rfl ⟨q_860, q_215, q_7, q_216⟩ pd_J9_max_7cf53 rfl ⟨⟨Nat.le_of_ble_eq_true rfl, Nat.le_of_ble_eq_true rfl⟩, rfl, rfl⟩ (Nat.le_of_ble_eq_true rfl) dX5_greatest_41 (fun r19 σ18 => ?_)
        refine go_istore_n C [(2, .int r19), (1, .int x16), (0, .ref (fh_ad E k1)), (3, .int x5), (4, .int r15)] rfl rfl (by decide) dX5_greatest_44 ?_
        refine go_iinc C (x5 + 1) 3 [(3, .int (x5 + 1)), (2, .int r19), (1, .int x16), (0, .ref (fh_ad E k1)), (4, .int r15)] rfl rfl rfl (by decide) dX5_greatest_45 ?_
        refine go_goto C 6 dX5_greatest_48 rfl ?_
        refine go_lv [3, 2, 1, 0] (lv' := [(0, .ref (fh_ad E k1)), (1, .int x16), (2, .int r19), (3, .int (x5 + 1))]) rfl ?_
        exact hr7 x16 r19 (x5 + 1) σ18
      refine go_icmp_le (tgt := 36) C dX5_greatest_29 rfl (fun _ => ?_) (fun _ => ?_)
      · refine go_iload_n C 2 rfl rfl dX5_greatest_36 ?_
        refine go_lv [1, 3, 4, 0] (lv' := [(0, .ref (fh_ad E k1)), (2, .int x4), (3, .int x5), (4, .int r15)]) rfl ?_
        exact hj20 x3 σ14
      · refine go_iload_n C 4 rfl rfl dX5_greatest_32 ?_
        refine go_goto C 37 dX5_greatest_33 rfl ?_
        refine go_lv [1, 3, 4, 0] (lv' := [(0, .ref (fh_ad E k1)), (2, .int x4), (3, .int x5), (4, .int r15)]) rfl ?_
        exact hj20 x5 σ14
theorem m_X5_greatest (E : fh_E) (l : Launch) (hok : fh_ok E) (k1 : Nat) (σ2 : fh_S) : fh_Met E l yX5_greatest cX5_greatest 5 ((some FieldType.int)) rm_X5_greatest fh_vI [.ref (fh_ad E k1)] σ2 (f_X5_greatest k1 σ2) := fh_met hok (by decide +kernel) (Nat.le_of_ble_eq_true rfl) (fun M _ C Hr => g_X5_greatest C Hr k1 σ2)
def f_X5_behind (k1 : Nat) (a2 : Int32) (a3 : Int32) (a4 : Int32) (σ5 : fh_S) : Option (Int32 × fh_S) := fh_ob 5 k1 ((fh_gr 5 k1 0).bind fun k6 => (fh_gr 5 k1 2).bind fun k7 => fh_cb (f_X5_copyRow k6 k7 σ5) fun _ σ8 => fh_cb (f_X5_ticks k1 a3 σ8) fun _ σ9 => fh_cb (f_X5_dialIs k1 a2 a4 σ9) fun r11 σ10 => fh_cb (f_X5_putBack k1 r11 σ10) fun r13 σ12 => some (r13, σ12))
abbrev rm_X5_behind : Room := { frames := 7, cells := 0, slots := 0, locals := 154 }
theorem pd_X5_behind : yX5_behind.cls ≠ "java/lang/invoke/MethodHandle" ∧ yX5_behind.cls ≠ "java/lang/invoke/VarHandle" ∧ (parseMethodDescriptor yX5_behind.desc).map (fun d => d.parameters.length) = some 3 := by decide +kernel
theorem dX5_behind_0 : decode cX5_behind 0 = .ok (.aload_n 0, 1) := by decide +kernel
theorem dX5_behind_1 : decode cX5_behind 1 = .ok (.getfield 9, 3) := by decide +kernel
theorem dX5_behind_4 : decode cX5_behind 4 = .ok (.aload_n 0, 1) := by decide +kernel
theorem dX5_behind_5 : decode cX5_behind 5 = .ok (.getfield 16, 3) := by decide +kernel
theorem dX5_behind_8 : decode cX5_behind 8 = .ok (.invokestatic 64, 3) := by decide +kernel
theorem dX5_behind_11 : decode cX5_behind 11 = .ok (.aload_n 0, 1) := by decide +kernel
theorem dX5_behind_12 : decode cX5_behind 12 = .ok (.iload_n 2, 1) := by decide +kernel
theorem dX5_behind_13 : decode cX5_behind 13 = .ok (.invokevirtual 139, 3) := by decide +kernel
theorem dX5_behind_16 : decode cX5_behind 16 = .ok (.aload_n 0, 1) := by decide +kernel
theorem dX5_behind_17 : decode cX5_behind 17 = .ok (.aload_n 0, 1) := by decide +kernel
theorem dX5_behind_18 : decode cX5_behind 18 = .ok (.iload_n 1, 1) := by decide +kernel
theorem dX5_behind_19 : decode cX5_behind 19 = .ok (.iload_n 3, 1) := by decide +kernel
theorem dX5_behind_20 : decode cX5_behind 20 = .ok (.invokevirtual 81, 3) := by decide +kernel
theorem dX5_behind_23 : decode cX5_behind 23 = .ok (.invokevirtual 183, 3) := by decide +kernel
theorem dX5_behind_26 : decode cX5_behind 26 = .ok (.ireturn, 1) := by decide +kernel
set_option maxHeartbeats 4000000 in
set_option maxRecDepth 100000 in
theorem g_X5_behind {E : fh_E} {M : fh_M} (C : fh_Cx E M cX5_behind 4 RX5 ((some FieldType.int)) rm_X5_behind) (Hr : fh_Rt E M) (k1 : Nat) (a2 : Int32) (a3 : Int32) (a4 : Int32) (σ5 : fh_S) : fh_Go E M 4 fh_vI 0 [(0, .ref (fh_ad E k1)), (1, .int a2), (2, .int a3), (3, .int a4)] [] σ5 (f_X5_behind k1 a2 a3 a4 σ5) := by
  have hok := fh_cok C
  refine go_ob ?_
  refine go_aload_n C 0 rfl rfl dX5_behind_0 ?_
  refine go_gr (ci := 5) (j := 0) C fh_in5 rfl (by decide) rfl q_746 dX5_behind_1 (fun k6 => ?_)
  refine go_aload_n C 0 rfl rfl dX5_behind_4 ?_
  refine go_gr (ci := 5) (j := 2) C fh_in5 rfl (by decide) rfl q_748 dX5_behind_5 (fun k7 => ?_)
  refine go_callSU C (st := []) [.ref (fh_ad E k6), .ref (fh_ad E k7)] (m_X5_copyRow E _ hok k6 k7 σ5) rfl ⟨q_993, q_994, q_6, q_995⟩ pd_X5_copyRow rfl ⟨⟨Nat.le_of_ble_eq_true rfl, Nat.le_of_ble_eq_true rfl⟩, rfl, rfl⟩ (Nat.le_of_ble_eq_true rfl) dX5_behind_8 (fun _ σ8 => ?_)
  refine go_aload_n C 0 rfl rfl dX5_behind_11 ?_
  refine go_iload_n C 2 rfl rfl dX5_behind_12 ?_
  refine go_callVU C (st := []) [.int a3] (m_X5_ticks E _ hok k1 a3 σ8) (fun _ h => fh_ob_ok h) rfl rfl ⟨q_898, q_900, qs_29, q_6, q_901⟩ pd_X5_ticks rfl ⟨⟨Nat.le_of_ble_eq_true rfl, Nat.le_of_ble_eq_true rfl⟩, rfl, rfl⟩ (Nat.le_of_ble_eq_true rfl) dX5_behind_13 (fun _ σ9 => ?_)
  refine go_aload_n C 0 rfl rfl dX5_behind_16 ?_
  refine go_aload_n C 0 rfl rfl dX5_behind_17 ?_
  refine go_iload_n C 1 rfl rfl dX5_behind_18 ?_
  refine go_iload_n C 3 rfl rfl dX5_behind_19 ?_
  refine go_callVI C (st := [.ref (fh_ad E k1)]) [.int a2, .int a4] (m_X5_dialIs E _ hok k1 a2 a4 σ9) (fun _ h => fh_ob_ok h) rfl rfl ⟨q_849, q_851, qs_24, q_6, q_852⟩ pd_X5_dialIs rfl ⟨⟨Nat.le_of_ble_eq_true rfl, Nat.le_of_ble_eq_true rfl⟩, rfl, rfl⟩ (Nat.le_of_ble_eq_true rfl) dX5_behind_20 (fun r11 σ10 => ?_)
  refine go_callVI C (st := []) [.int r11] (m_X5_putBack E _ hok k1 r11 σ10) (fun _ h => fh_ob_ok h) rfl rfl ⟨q_996, q_998, qs_43, q_6, q_999⟩ pd_X5_putBack rfl ⟨⟨Nat.le_of_ble_eq_true rfl, Nat.le_of_ble_eq_true rfl⟩, rfl, rfl⟩ (Nat.le_of_ble_eq_true rfl) dX5_behind_23 (fun r13 σ12 => ?_)
  exact go_iret C Hr rfl dX5_behind_26
theorem m_X5_behind (E : fh_E) (l : Launch) (hok : fh_ok E) (k1 : Nat) (a2 : Int32) (a3 : Int32) (a4 : Int32) (σ5 : fh_S) : fh_Met E l yX5_behind cX5_behind 4 ((some FieldType.int)) rm_X5_behind fh_vI [.ref (fh_ad E k1), .int a2, .int a3, .int a4] σ5 (f_X5_behind k1 a2 a3 a4 σ5) := fh_met hok (by decide +kernel) (Nat.le_of_ble_eq_true rfl) (fun M _ C Hr => g_X5_behind C Hr k1 a2 a3 a4 σ5)
def f_X5_ahead_J29 (k1 : Nat) : fh_S → Option (Int32 × fh_S) := fun σ7 => fh_cb (f_X5_finding k1 ((-1000001 : Int32)) σ7) fun r9 σ8 => some (r9, σ8)
def f_X5_ahead (k1 : Nat) (a2 : Int32) (a3 : Int32) (σ4 : fh_S) : Option (Int32 × fh_S) := fh_ob 5 k1 (fh_cb (f_X5_isDial k1 a2 σ4) fun r6 σ5 => fh_jn (f_X5_ahead_J29 k1) (fun j10 => if r6 = 0 then j10 σ5 else fh_cb (f_X5_within a3 ((0 : Int32)) ((200 : Int32)) σ5) fun r12 σ11 => if r12 = 0 then j10 σ11 else fh_cb (f_X5_behind k1 a2 a3 ((1 : Int32)) σ11) fun r14 σ13 => some (r14, σ13)))
abbrev rm_X5_ahead : Room := { frames := 8, cells := 0, slots := 0, locals := 177 }
theorem pd_X5_ahead : yX5_ahead.cls ≠ "java/lang/invoke/MethodHandle" ∧ yX5_ahead.cls ≠ "java/lang/invoke/VarHandle" ∧ (parseMethodDescriptor yX5_ahead.desc).map (fun d => d.parameters.length) = some 2 := by decide +kernel
theorem dX5_ahead_0 : decode cX5_ahead 0 = .ok (.aload_n 0, 1) := by decide +kernel
theorem dX5_ahead_1 : decode cX5_ahead 1 = .ok (.iload_n 1, 1) := by decide +kernel
theorem dX5_ahead_2 : decode cX5_ahead 2 = .ok (.invokevirtual 112, 3) := by decide +kernel
theorem dX5_ahead_5 : decode cX5_ahead 5 = .ok (.ifCond .eq 24, 3) := by decide +kernel
theorem dX5_ahead_8 : decode cX5_ahead 8 = .ok (.iload_n 2, 1) := by decide +kernel
theorem dX5_ahead_9 : decode cX5_ahead 9 = .ok (.iconst 0, 1) := by decide +kernel
theorem dX5_ahead_10 : decode cX5_ahead 10 = .ok (.sipush 200, 3) := by decide +kernel
theorem dX5_ahead_13 : decode cX5_ahead 13 = .ok (.invokestatic 73, 3) := by decide +kernel
theorem dX5_ahead_16 : decode cX5_ahead 16 = .ok (.ifCond .eq 13, 3) := by decide +kernel
theorem dX5_ahead_19 : decode cX5_ahead 19 = .ok (.aload_n 0, 1) := by decide +kernel
theorem dX5_ahead_20 : decode cX5_ahead 20 = .ok (.iload_n 1, 1) := by decide +kernel
theorem dX5_ahead_21 : decode cX5_ahead 21 = .ok (.iload_n 2, 1) := by decide +kernel
theorem dX5_ahead_22 : decode cX5_ahead 22 = .ok (.iconst 1, 1) := by decide +kernel
theorem dX5_ahead_23 : decode cX5_ahead 23 = .ok (.invokevirtual 186, 3) := by decide +kernel
theorem dX5_ahead_26 : decode cX5_ahead 26 = .ok (.goto 9, 3) := by decide +kernel
theorem dX5_ahead_29 : decode cX5_ahead 29 = .ok (.aload_n 0, 1) := by decide +kernel
theorem dX5_ahead_30 : decode cX5_ahead 30 = .ok (.ldc 63, 2) := by decide +kernel
theorem dX5_ahead_32 : decode cX5_ahead 32 = .ok (.invokevirtual 69, 3) := by decide +kernel
theorem dX5_ahead_35 : decode cX5_ahead 35 = .ok (.ireturn, 1) := by decide +kernel
set_option maxHeartbeats 4000000 in
set_option maxRecDepth 100000 in
theorem g_X5_ahead {E : fh_E} {M : fh_M} (C : fh_Cx E M cX5_ahead 3 RX5 ((some FieldType.int)) rm_X5_ahead) (Hr : fh_Rt E M) (k1 : Nat) (a2 : Int32) (a3 : Int32) (σ4 : fh_S) : fh_Go E M 3 fh_vI 0 [(0, .ref (fh_ad E k1)), (1, .int a2), (2, .int a3)] [] σ4 (f_X5_ahead k1 a2 a3 σ4) := by
  have hok := fh_cok C
  refine go_ob ?_
  refine go_aload_n C 0 rfl rfl dX5_ahead_0 ?_
  refine go_iload_n C 1 rfl rfl dX5_ahead_1 ?_
  refine go_callVI C (st := []) [.int a2] (m_X5_isDial E _ hok k1 a2 σ4) (fun _ h => fh_ob_ok h) rfl rfl ⟨q_837, q_839, qs_21, q_6, q_840⟩ pd_X5_isDial rfl ⟨⟨Nat.le_of_ble_eq_true rfl, Nat.le_of_ble_eq_true rfl⟩, rfl, rfl⟩ (Nat.le_of_ble_eq_true rfl) dX5_ahead_2 (fun r6 σ5 => ?_)
  refine go_jn (fun (j10 : fh_S → Option (Int32 × fh_S)) => ∀ (σ7 : fh_S), fh_Go E M 3 fh_vI 29 [(0, .ref (fh_ad E k1))] [] σ7 (j10 σ7)) ?_ (fun j10 hj10 => ?_)
  · intro σ7
    refine go_aload_n C 0 rfl rfl dX5_ahead_29 ?_
    refine go_ldc C q_820 dX5_ahead_30 ?_
    refine go_callVI C (st := []) [.int ((-1000001 : Int32))] (m_X5_finding E _ hok k1 ((-1000001 : Int32)) σ7) (fun _ h => fh_ob_ok h) rfl rfl ⟨q_821, q_823, qs_19, q_6, q_824⟩ pd_X5_finding rfl ⟨⟨Nat.le_of_ble_eq_true rfl, Nat.le_of_ble_eq_true rfl⟩, rfl, rfl⟩ (Nat.le_of_ble_eq_true rfl) dX5_ahead_32 (fun r9 σ8 => ?_)
    exact go_iret C Hr rfl dX5_ahead_35
  refine go_if_eq (tgt := 29) C dX5_ahead_5 rfl (fun _ => ?_) (fun _ => ?_)
  · refine go_lv [0] (lv' := [(0, .ref (fh_ad E k1))]) rfl ?_
    exact hj10 σ5
  · refine go_iload_n C 2 rfl rfl dX5_ahead_8 ?_
    refine go_iconst C (0 : Int32) dX5_ahead_9 rfl ?_
    refine go_sipush C (200 : Int32) dX5_ahead_10 rfl ?_
    refine go_callSI C (st := []) [.int a3, .int ((0 : Int32)), .int ((200 : Int32))] (m_X5_within E _ hok a3 ((0 : Int32)) ((200 : Int32)) σ5) rfl ⟨q_817, q_818, q_6, q_819⟩ pd_X5_within rfl ⟨⟨Nat.le_of_ble_eq_true rfl, Nat.le_of_ble_eq_true rfl⟩, rfl, rfl⟩ (Nat.le_of_ble_eq_true rfl) dX5_ahead_13 (fun r12 σ11 => ?_)
    refine go_if_eq (tgt := 29) C dX5_ahead_16 rfl (fun _ => ?_) (fun _ => ?_)
    · refine go_lv [0] (lv' := [(0, .ref (fh_ad E k1))]) rfl ?_
      exact hj10 σ11
    · refine go_aload_n C 0 rfl rfl dX5_ahead_19 ?_
      refine go_iload_n C 1 rfl rfl dX5_ahead_20 ?_
      refine go_iload_n C 2 rfl rfl dX5_ahead_21 ?_
      refine go_iconst C (1 : Int32) dX5_ahead_22 rfl ?_
      refine go_callVI C (st := []) [.int a2, .int a3, .int ((1 : Int32))] (m_X5_behind E _ hok k1 a2 a3 ((1 : Int32)) σ11) (fun _ h => fh_ob_ok h) rfl rfl ⟨q_989, q_991, qs_42, q_6, q_992⟩ pd_X5_behind rfl ⟨⟨Nat.le_of_ble_eq_true rfl, Nat.le_of_ble_eq_true rfl⟩, rfl, rfl⟩ (Nat.le_of_ble_eq_true rfl) dX5_ahead_23 (fun r14 σ13 => ?_)
      refine go_goto C 35 dX5_ahead_26 rfl ?_
      exact go_iret C Hr rfl dX5_ahead_35
theorem m_X5_ahead (E : fh_E) (l : Launch) (hok : fh_ok E) (k1 : Nat) (a2 : Int32) (a3 : Int32) (σ4 : fh_S) : fh_Met E l yX5_ahead cX5_ahead 3 ((some FieldType.int)) rm_X5_ahead fh_vI [.ref (fh_ad E k1), .int a2, .int a3] σ4 (f_X5_ahead k1 a2 a3 σ4) := fh_met hok (by decide +kernel) (Nat.le_of_ble_eq_true rfl) (fun M _ C Hr => g_X5_ahead C Hr k1 a2 a3 σ4)
