def f_X5_going_J29 (k1 : Nat) : fh_S → Option (Int32 × fh_S) := fun σ7 => fh_cb (f_X5_finding k1 ((-1000001 : Int32)) σ7) fun r9 σ8 => some (r9, σ8)
def f_X5_going (k1 : Nat) (a2 : Int32) (a3 : Int32) (σ4 : fh_S) : Option (Int32 × fh_S) := fh_ob 5 k1 (fh_cb (f_X5_isDial k1 a2 σ4) fun r6 σ5 => fh_jn (f_X5_going_J29 k1) (fun j10 => if r6 = 0 then j10 σ5 else fh_cb (f_X5_within a3 ((0 : Int32)) ((200 : Int32)) σ5) fun r12 σ11 => if r12 = 0 then j10 σ11 else fh_cb (f_X5_behind k1 a2 a3 ((3 : Int32)) σ11) fun r14 σ13 => some (r14, σ13)))
abbrev rm_X5_going : Room := { frames := 8, cells := 0, slots := 0, locals := 177 }
theorem pd_X5_going : yX5_going.cls ≠ "java/lang/invoke/MethodHandle" ∧ yX5_going.cls ≠ "java/lang/invoke/VarHandle" ∧ (parseMethodDescriptor yX5_going.desc).map (fun d => d.parameters.length) = some 2 := by decide +kernel
theorem dX5_going_0 : decode cX5_going 0 = .ok (.aload_n 0, 1) := by decide +kernel
theorem dX5_going_1 : decode cX5_going 1 = .ok (.iload_n 1, 1) := by decide +kernel
theorem dX5_going_2 : decode cX5_going 2 = .ok (.invokevirtual 112, 3) := by decide +kernel
theorem dX5_going_5 : decode cX5_going 5 = .ok (.ifCond .eq 24, 3) := by decide +kernel
theorem dX5_going_8 : decode cX5_going 8 = .ok (.iload_n 2, 1) := by decide +kernel
theorem dX5_going_9 : decode cX5_going 9 = .ok (.iconst 0, 1) := by decide +kernel
theorem dX5_going_10 : decode cX5_going 10 = .ok (.sipush 200, 3) := by decide +kernel
theorem dX5_going_13 : decode cX5_going 13 = .ok (.invokestatic 73, 3) := by decide +kernel
theorem dX5_going_16 : decode cX5_going 16 = .ok (.ifCond .eq 13, 3) := by decide +kernel
theorem dX5_going_19 : decode cX5_going 19 = .ok (.aload_n 0, 1) := by decide +kernel
theorem dX5_going_20 : decode cX5_going 20 = .ok (.iload_n 1, 1) := by decide +kernel
theorem dX5_going_21 : decode cX5_going 21 = .ok (.iload_n 2, 1) := by decide +kernel
theorem dX5_going_22 : decode cX5_going 22 = .ok (.iconst 3, 1) := by decide +kernel
theorem dX5_going_23 : decode cX5_going 23 = .ok (.invokevirtual 186, 3) := by decide +kernel
theorem dX5_going_26 : decode cX5_going 26 = .ok (.goto 9, 3) := by decide +kernel
theorem dX5_going_29 : decode cX5_going 29 = .ok (.aload_n 0, 1) := by decide +kernel
theorem dX5_going_30 : decode cX5_going 30 = .ok (.ldc 63, 2) := by decide +kernel
theorem dX5_going_32 : decode cX5_going 32 = .ok (.invokevirtual 69, 3) := by decide +kernel
theorem dX5_going_35 : decode cX5_going 35 = .ok (.ireturn, 1) := by decide +kernel
set_option maxHeartbeats 4000000 in
set_option maxRecDepth 100000 in
theorem g_X5_going {E : fh_E} {M : fh_M} (C : fh_Cx E M cX5_going 3 RX5 ((some FieldType.int)) rm_X5_going) (Hr : fh_Rt E M) (k1 : Nat) (a2 : Int32) (a3 : Int32) (σ4 : fh_S) : fh_Go E M 3 fh_vI 0 [(0, .ref (fh_ad E k1)), (1, .int a2), (2, .int a3)] [] σ4 (f_X5_going k1 a2 a3 σ4) := by
  have hok := fh_cok C
  refine go_ob ?_
  refine go_aload_n C 0 rfl rfl dX5_going_0 ?_
  refine go_iload_n C 1 rfl rfl dX5_going_1 ?_
  refine go_callVI C (st := []) [.int a2] (m_X5_isDial E _ hok k1 a2 σ4) (fun _ h => fh_ob_ok h) rfl rfl ⟨q_837, q_839, qs_21, q_6, q_840⟩ pd_X5_isDial rfl ⟨⟨Nat.le_of_ble_eq_true rfl, Nat.le_of_ble_eq_true rfl⟩, rfl, rfl⟩ (Nat.le_of_ble_eq_true rfl) dX5_going_2 (fun r6 σ5 => ?_)
  refine go_jn (fun (j10 : fh_S → Option (Int32 × fh_S)) => ∀ (σ7 : fh_S), fh_Go E M 3 fh_vI 29 [(0, .ref (fh_ad E k1))] [] σ7 (j10 σ7)) ?_ (fun j10 hj10 => ?_)
  · intro σ7
    refine go_aload_n C 0 rfl rfl dX5_going_29 ?_
    refine go_ldc C q_820 dX5_going_30 ?_
    refine go_callVI C (st := []) [.int ((-1000001 : Int32))] (m_X5_finding E _ hok k1 ((-1000001 : Int32)) σ7) (fun _ h => fh_ob_ok h) rfl rfl ⟨q_821, q_823, qs_19, q_6, q_824⟩ pd_X5_finding rfl ⟨⟨Nat.le_of_ble_eq_true rfl, Nat.le_of_ble_eq_true rfl⟩, rfl, rfl⟩ (Nat.le_of_ble_eq_true rfl) dX5_going_32 (fun r9 σ8 => ?_)
    exact go_iret C Hr rfl dX5_going_35
  refine go_if_eq (tgt := 29) C dX5_going_5 rfl (fun _ => ?_) (fun _ => ?_)
  · refine go_lv [0] (lv' := [(0, .ref (fh_ad E k1))]) rfl ?_
    exact hj10 σ5
  · refine go_iload_n C 2 rfl rfl dX5_going_8 ?_
    refine go_iconst C (0 : Int32) dX5_going_9 rfl ?_
    refine go_sipush C (200 : Int32) dX5_going_10 rfl ?_
    refine go_callSI C (st := []) [.int a3, .int ((0 : Int32)), .int ((200 : Int32))] (m_X5_within E _ hok a3 ((0 : Int32)) ((200 : Int32)) σ5) rfl ⟨q_817, q_818, q_6, q_819⟩ pd_X5_within rfl ⟨⟨Nat.le_of_ble_eq_true rfl, Nat.le_of_ble_eq_true rfl⟩, rfl, rfl⟩ (Nat.le_of_ble_eq_true rfl) dX5_going_13 (fun r12 σ11 => ?_)
    refine go_if_eq (tgt := 29) C dX5_going_16 rfl (fun _ => ?_) (fun _ => ?_)
    · refine go_lv [0] (lv' := [(0, .ref (fh_ad E k1))]) rfl ?_
      exact hj10 σ11
    · refine go_aload_n C 0 rfl rfl dX5_going_19 ?_
      refine go_iload_n C 1 rfl rfl dX5_going_20 ?_
      refine go_iload_n C 2 rfl rfl dX5_going_21 ?_
      refine go_iconst C (3 : Int32) dX5_going_22 rfl ?_
      refine go_callVI C (st := []) [.int a2, .int a3, .int ((3 : Int32))] (m_X5_behind E _ hok k1 a2 a3 ((3 : Int32)) σ11) (fun _ h => fh_ob_ok h) rfl rfl ⟨q_989, q_991, qs_42, q_6, q_992⟩ pd_X5_behind rfl ⟨⟨Nat.le_of_ble_eq_true rfl, Nat.le_of_ble_eq_true rfl⟩, rfl, rfl⟩ (Nat.le_of_ble_eq_true rfl) dX5_going_23 (fun r14 σ13 => ?_)
      refine go_goto C 35 dX5_going_26 rfl ?_
      exact go_iret C Hr rfl dX5_going_35
theorem m_X5_going (E : fh_E) (l : Launch) (hok : fh_ok E) (k1 : Nat) (a2 : Int32) (a3 : Int32) (σ4 : fh_S) : fh_Met E l yX5_going cX5_going 3 ((some FieldType.int)) rm_X5_going fh_vI [.ref (fh_ad E k1), .int a2, .int a3] σ4 (f_X5_going k1 a2 a3 σ4) := fh_met hok (by decide +kernel) (Nat.le_of_ble_eq_true rfl) (fun M _ C Hr => g_X5_going C Hr k1 a2 a3 σ4)
def f_X5_shows_J15 (k1 : Nat) : fh_S → Option (Int32 × fh_S) := fun σ7 => fh_cb (f_X5_finding k1 ((-1000001 : Int32)) σ7) fun r9 σ8 => some (r9, σ8)
def f_X5_shows_J79 (k1 : Nat) : Int32 → fh_S → Option (Int32 × fh_S) := fun x22 σ23 => fh_cb (f_X5_putBack k1 x22 σ23) fun r25 σ24 => fh_cb (f_X5_orNone k1 r25 σ24) fun r27 σ26 => some (r27, σ26)
def f_X5_shows_J62 (k1 : Nat) (a2 : Int32) (a3 : Int32) (x16 : Int32) : fh_S → Option (Int32 × fh_S) := fun σ19 => fh_cb (f_X5_dialIs k1 a2 ((1 : Int32)) σ19) fun r21 σ20 => fh_jn (f_X5_shows_J79 k1) (fun j28 => if r21 = a3 then j28 x16 σ20 else j28 ((-1 : Int32)) σ20)
def f_X5_shows_B35 (k1 : Nat) (a2 : Int32) (a3 : Int32) (r18 : Int32 → fh_S → Option (Int32 × fh_S)) : Int32 → fh_S → Option (Int32 × fh_S) := fun x16 σ17 => fh_jn (f_X5_shows_J62 k1 a2 a3 x16) (fun j29 => if ((200 : Int32)) ≤ x16 then j29 σ17 else fh_cb (f_X5_dialIs k1 a2 ((1 : Int32)) σ17) fun r31 σ30 => if r31 = a3 then j29 σ30 else fh_cb (f_X5_tick k1 σ30) fun _ σ32 => r18 (x16 + 1) σ32)
def f_X5_shows (k1 : Nat) (a2 : Int32) (a3 : Int32) (σ4 : fh_S) : Option (Int32 × fh_S) := fh_ob 5 k1 (fh_cb (f_X5_isDial k1 a2 σ4) fun r6 σ5 => fh_jn (f_X5_shows_J15 k1) (fun j10 => if r6 = 0 then j10 σ5 else fh_cb (f_X5_isHour a3 σ5) fun r12 σ11 => if r12 = 0 then j10 σ11 else (fh_gr 5 k1 0).bind fun k13 => (fh_gr 5 k1 2).bind fun k14 => fh_cb (f_X5_copyRow k13 k14 σ11) fun _ σ15 => fh_fx (ρ := Int32 → fh_S → Option (Int32 × fh_S)) (fun _ _ => none) (f_X5_shows_B35 k1 a2 a3) fh_fu ((0 : Int32)) σ15))
abbrev rm_X5_shows : Room := { frames := 6, cells := 0, slots := 0, locals := 132 }
theorem pd_X5_shows : yX5_shows.cls ≠ "java/lang/invoke/MethodHandle" ∧ yX5_shows.cls ≠ "java/lang/invoke/VarHandle" ∧ (parseMethodDescriptor yX5_shows.desc).map (fun d => d.parameters.length) = some 2 := by decide +kernel
theorem dX5_shows_0 : decode cX5_shows 0 = .ok (.aload_n 0, 1) := by decide +kernel
theorem dX5_shows_1 : decode cX5_shows 1 = .ok (.iload_n 1, 1) := by decide +kernel
theorem dX5_shows_2 : decode cX5_shows 2 = .ok (.invokevirtual 112, 3) := by decide +kernel
theorem dX5_shows_5 : decode cX5_shows 5 = .ok (.ifCond .eq 10, 3) := by decide +kernel
theorem dX5_shows_8 : decode cX5_shows 8 = .ok (.iload_n 2, 1) := by decide +kernel
theorem dX5_shows_9 : decode cX5_shows 9 = .ok (.invokestatic 118, 3) := by decide +kernel
theorem dX5_shows_12 : decode cX5_shows 12 = .ok (.ifCond .ne 10, 3) := by decide +kernel
theorem dX5_shows_15 : decode cX5_shows 15 = .ok (.aload_n 0, 1) := by decide +kernel
theorem dX5_shows_16 : decode cX5_shows 16 = .ok (.ldc 63, 2) := by decide +kernel
theorem dX5_shows_18 : decode cX5_shows 18 = .ok (.invokevirtual 69, 3) := by decide +kernel
theorem dX5_shows_21 : decode cX5_shows 21 = .ok (.ireturn, 1) := by decide +kernel
theorem dX5_shows_22 : decode cX5_shows 22 = .ok (.aload_n 0, 1) := by decide +kernel
theorem dX5_shows_23 : decode cX5_shows 23 = .ok (.getfield 9, 3) := by decide +kernel
theorem dX5_shows_26 : decode cX5_shows 26 = .ok (.aload_n 0, 1) := by decide +kernel
theorem dX5_shows_27 : decode cX5_shows 27 = .ok (.getfield 16, 3) := by decide +kernel
theorem dX5_shows_30 : decode cX5_shows 30 = .ok (.invokestatic 64, 3) := by decide +kernel
theorem dX5_shows_33 : decode cX5_shows 33 = .ok (.iconst 0, 1) := by decide +kernel
theorem dX5_shows_34 : decode cX5_shows 34 = .ok (.istore_n 3, 1) := by decide +kernel
theorem dX5_shows_35 : decode cX5_shows 35 = .ok (.iload_n 3, 1) := by decide +kernel
theorem dX5_shows_36 : decode cX5_shows 36 = .ok (.sipush 200, 3) := by decide +kernel
theorem dX5_shows_39 : decode cX5_shows 39 = .ok (.if_icmp .ge 23, 3) := by decide +kernel
theorem dX5_shows_42 : decode cX5_shows 42 = .ok (.aload_n 0, 1) := by decide +kernel
theorem dX5_shows_43 : decode cX5_shows 43 = .ok (.iload_n 1, 1) := by decide +kernel
theorem dX5_shows_44 : decode cX5_shows 44 = .ok (.iconst 1, 1) := by decide +kernel
theorem dX5_shows_45 : decode cX5_shows 45 = .ok (.invokevirtual 81, 3) := by decide +kernel
theorem dX5_shows_48 : decode cX5_shows 48 = .ok (.iload_n 2, 1) := by decide +kernel
theorem dX5_shows_49 : decode cX5_shows 49 = .ok (.if_icmp .eq 13, 3) := by decide +kernel
theorem dX5_shows_52 : decode cX5_shows 52 = .ok (.aload_n 0, 1) := by decide +kernel
theorem dX5_shows_53 : decode cX5_shows 53 = .ok (.invokevirtual 134, 3) := by decide +kernel
theorem dX5_shows_56 : decode cX5_shows 56 = .ok (.iinc 3 1, 3) := by decide +kernel
theorem dX5_shows_59 : decode cX5_shows 59 = .ok (.goto (-24), 3) := by decide +kernel
theorem dX5_shows_62 : decode cX5_shows 62 = .ok (.aload_n 0, 1) := by decide +kernel
theorem dX5_shows_63 : decode cX5_shows 63 = .ok (.aload_n 0, 1) := by decide +kernel
theorem dX5_shows_64 : decode cX5_shows 64 = .ok (.aload_n 0, 1) := by decide +kernel
theorem dX5_shows_65 : decode cX5_shows 65 = .ok (.iload_n 1, 1) := by decide +kernel
theorem dX5_shows_66 : decode cX5_shows 66 = .ok (.iconst 1, 1) := by decide +kernel
theorem dX5_shows_67 : decode cX5_shows 67 = .ok (.invokevirtual 81, 3) := by decide +kernel
theorem dX5_shows_70 : decode cX5_shows 70 = .ok (.iload_n 2, 1) := by decide +kernel
theorem dX5_shows_71 : decode cX5_shows 71 = .ok (.if_icmp .ne 7, 3) := by decide +kernel
theorem dX5_shows_74 : decode cX5_shows 74 = .ok (.iload_n 3, 1) := by decide +kernel
theorem dX5_shows_75 : decode cX5_shows 75 = .ok (.goto 4, 3) := by decide +kernel
theorem dX5_shows_78 : decode cX5_shows 78 = .ok (.iconst (-1), 1) := by decide +kernel
theorem dX5_shows_79 : decode cX5_shows 79 = .ok (.invokevirtual 183, 3) := by decide +kernel
theorem dX5_shows_82 : decode cX5_shows 82 = .ok (.invokevirtual 180, 3) := by decide +kernel
theorem dX5_shows_85 : decode cX5_shows 85 = .ok (.ireturn, 1) := by decide +kernel
set_option maxHeartbeats 4000000 in
set_option maxRecDepth 100000 in
theorem g_X5_shows {E : fh_E} {M : fh_M} (C : fh_Cx E M cX5_shows 4 RX5 ((some FieldType.int)) rm_X5_shows) (Hr : fh_Rt E M) (k1 : Nat) (a2 : Int32) (a3 : Int32) (σ4 : fh_S) : fh_Go E M 4 fh_vI 0 [(0, .ref (fh_ad E k1)), (1, .int a2), (2, .int a3)] [] σ4 (f_X5_shows k1 a2 a3 σ4) := by
  have hok := fh_cok C
  refine go_ob ?_
  refine go_aload_n C 0 rfl rfl dX5_shows_0 ?_
  refine go_iload_n C 1 rfl rfl dX5_shows_1 ?_
  refine go_callVI C (st := []) [.int a2] (m_X5_isDial E _ hok k1 a2 σ4) (fun _ h => fh_ob_ok h) rfl rfl ⟨q_837, q_839, qs_21, q_6, q_840⟩ pd_X5_isDial rfl ⟨⟨Nat.le_of_ble_eq_true rfl, Nat.le_of_ble_eq_true rfl⟩, rfl, rfl⟩ (Nat.le_of_ble_eq_true rfl) dX5_shows_2 (fun r6 σ5 => ?_)
  refine go_jn (fun (j10 : fh_S → Option (Int32 × fh_S)) => ∀ (σ7 : fh_S), fh_Go E M 4 fh_vI 15 [(0, .ref (fh_ad E k1))] [] σ7 (j10 σ7)) ?_ (fun j10 hj10 => ?_)
  · intro σ7
    refine go_aload_n C 0 rfl rfl dX5_shows_15 ?_
    refine go_ldc C q_820 dX5_shows_16 ?_
    refine go_callVI C (st := []) [.int ((-1000001 : Int32))] (m_X5_finding E _ hok k1 ((-1000001 : Int32)) σ7) (fun _ h => fh_ob_ok h) rfl rfl ⟨q_821, q_823, qs_19, q_6, q_824⟩ pd_X5_finding rfl ⟨⟨Nat.le_of_ble_eq_true rfl, Nat.le_of_ble_eq_true rfl⟩, rfl, rfl⟩ (Nat.le_of_ble_eq_true rfl) dX5_shows_18 (fun r9 σ8 => ?_)
    exact go_iret C Hr rfl dX5_shows_21
  refine go_if_eq (tgt := 15) C dX5_shows_5 rfl (fun _ => ?_) (fun _ => ?_)
  · refine go_lv [0] (lv' := [(0, .ref (fh_ad E k1))]) rfl ?_
    exact hj10 σ5
  · refine go_iload_n C 2 rfl rfl dX5_shows_8 ?_
    refine go_callSI C (st := []) [.int a3] (m_X5_isHour E _ hok a3 σ5) rfl ⟨q_870, q_871, q_6, q_872⟩ pd_X5_isHour rfl ⟨⟨Nat.le_of_ble_eq_true rfl, Nat.le_of_ble_eq_true rfl⟩, rfl, rfl⟩ (Nat.le_of_ble_eq_true rfl) dX5_shows_9 (fun r12 σ11 => ?_)
    refine go_if_ne (tgt := 22) C dX5_shows_12 rfl (fun _ => ?_) (fun _ => ?_)
    · refine go_aload_n C 0 rfl rfl dX5_shows_22 ?_
      refine go_gr (ci := 5) (j := 0) C fh_in5 rfl (by decide) rfl q_746 dX5_shows_23 (fun k13 => ?_)
      refine go_aload_n C 0 rfl rfl dX5_shows_26 ?_
      refine go_gr (ci := 5) (j := 2) C fh_in5 rfl (by decide) rfl q_748 dX5_shows_27 (fun k14 => ?_)
      refine go_callSU C (st := []) [.ref (fh_ad E k13), .ref (fh_ad E k14)] (m_X5_copyRow E _ hok k13 k14 σ11) rfl ⟨q_993, q_994, q_6, q_995⟩ pd_X5_copyRow rfl ⟨⟨Nat.le_of_ble_eq_true rfl, Nat.le_of_ble_eq_true rfl⟩, rfl, rfl⟩ (Nat.le_of_ble_eq_true rfl) dX5_shows_30 (fun _ σ15 => ?_)
      refine go_iconst C (0 : Int32) dX5_shows_33 rfl ?_
      refine go_istore_n C [(3, .int ((0 : Int32))), (0, .ref (fh_ad E k1)), (1, .int a2), (2, .int a3)] rfl rfl (by decide) dX5_shows_34 ?_
      refine go_lv [1, 2, 3, 0] (lv' := [(0, .ref (fh_ad E k1)), (1, .int a2), (2, .int a3), (3, .int ((0 : Int32)))]) rfl ?_
      refine go_fx (fun (r18 : Int32 → fh_S → Option (Int32 × fh_S)) => ∀ (x16 : Int32) (σ17 : fh_S), fh_Go E M 4 fh_vI 35 [(0, .ref (fh_ad E k1)), (1, .int a2), (2, .int a3), (3, .int x16)] [] σ17 (r18 x16 σ17)) ?_ ?_ fh_fu ((0 : Int32)) σ15
      · intro x16 σ17
        exact go_none
      · intro r18 hr18 x16 σ17
        refine go_iload_n C 3 rfl rfl dX5_shows_35 ?_
        refine go_sipush C (200 : Int32) dX5_shows_36 rfl ?_
        refine go_jn (fun (j29 : fh_S → Option (Int32 × fh_S)) => ∀ (σ19 : fh_S), fh_Go E M 4 fh_vI 62 [(0, .ref (fh_ad E k1)), (1, .int a2), (2, .int a3), (3, .int x16)] [] σ19 (j29 σ19)) ?_ (fun j29 hj29 => ?_)
        · intro σ19
          refine go_aload_n C 0 rfl rfl dX5_shows_62 ?_
          refine go_aload_n C 0 rfl rfl dX5_shows_63 ?_
          refine go_aload_n C 0 rfl rfl dX5_shows_64 ?_
          refine go_iload_n C 1 rfl rfl dX5_shows_65 ?_
          refine go_iconst C (1 : Int32) dX5_shows_66 rfl ?_
          refine go_callVI C (st := [.ref (fh_ad E k1), .ref (fh_ad E k1)]) [.int a2, .int ((1 : Int32))] (m_X5_dialIs E _ hok k1 a2 ((1 : Int32)) σ19) (fun _ h => fh_ob_ok h) rfl rfl ⟨q_849, q_851, qs_24, q_6, q_852⟩ pd_X5_dialIs rfl ⟨⟨Nat.le_of_ble_eq_true rfl, Nat.le_of_ble_eq_true rfl⟩, rfl, rfl⟩ (Nat.le_of_ble_eq_true rfl) dX5_shows_67 (fun r21 σ20 => ?_)
          refine go_iload_n C 2 rfl rfl dX5_shows_70 ?_
          refine go_jn (fun (j28 : Int32 → fh_S → Option (Int32 × fh_S)) => ∀ (x22 : Int32) (σ23 : fh_S), fh_Go E M 4 fh_vI 79 [] [.int x22, .ref (fh_ad E k1), .ref (fh_ad E k1)] σ23 (j28 x22 σ23)) ?_ (fun j28 hj28 => ?_)
          · intro x22 σ23
            refine go_callVI C (st := [.ref (fh_ad E k1)]) [.int x22] (m_X5_putBack E _ hok k1 x22 σ23) (fun _ h => fh_ob_ok h) rfl rfl ⟨q_996, q_998, qs_43, q_6, q_999⟩ pd_X5_putBack rfl ⟨⟨Nat.le_of_ble_eq_true rfl, Nat.le_of_ble_eq_true rfl⟩, rfl, rfl⟩ (Nat.le_of_ble_eq_true rfl) dX5_shows_79 (fun r25 σ24 => ?_)
            refine go_callVI C (st := []) [.int r25] (m_X5_orNone E _ hok k1 r25 σ24) (fun _ h => fh_ob_ok h) rfl rfl ⟨q_980, q_982, qs_41, q_6, q_983⟩ pd_X5_orNone rfl ⟨⟨Nat.le_of_ble_eq_true rfl, Nat.le_of_ble_eq_true rfl⟩, rfl, rfl⟩ (Nat.le_of_ble_eq_true rfl) dX5_shows_82 (fun r27 σ26 => ?_)
            exact go_iret C Hr rfl dX5_shows_85
          refine go_icmp_ne (tgt := 78) C dX5_shows_71 rfl (fun _ => ?_) (fun _ => ?_)
          · refine go_iconst C (-1 : Int32) dX5_shows_78 rfl ?_
            refine go_lv [] (lv' := []) rfl ?_
            exact hj28 ((-1 : Int32)) σ20
          · refine go_iload_n C 3 rfl rfl dX5_shows_74 ?_
            refine go_goto C 79 dX5_shows_75 rfl ?_
            refine go_lv [] (lv' := []) rfl ?_
            exact hj28 x16 σ20
        refine go_icmp_ge (tgt := 62) C dX5_shows_39 rfl (fun _ => ?_) (fun _ => ?_)
        · exact hj29 σ17
        · refine go_aload_n C 0 rfl rfl dX5_shows_42 ?_
          refine go_iload_n C 1 rfl rfl dX5_shows_43 ?_
          refine go_iconst C (1 : Int32) dX5_shows_44 rfl ?_
          refine go_callVI C (st := []) [.int a2, .int ((1 : Int32))] (m_X5_dialIs E _ hok k1 a2 ((1 : Int32)) σ17) (fun _ h => fh_ob_ok h) rfl rfl ⟨q_849, q_851, qs_24, q_6, q_852⟩ pd_X5_dialIs rfl ⟨⟨Nat.le_of_ble_eq_true rfl, Nat.le_of_ble_eq_true rfl⟩, rfl, rfl⟩ (Nat.le_of_ble_eq_true rfl) dX5_shows_45 (fun r31 σ30 => ?_)
          refine go_iload_n C 2 rfl rfl dX5_shows_48 ?_
          refine go_icmp_eq (tgt := 62) C dX5_shows_49 rfl (fun _ => ?_) (fun _ => ?_)
          · exact hj29 σ30
          · refine go_aload_n C 0 rfl rfl dX5_shows_52 ?_
            refine go_callVU C (st := []) [] (m_X5_tick E _ hok k1 σ30) (fun _ h => fh_ob_ok h) rfl rfl ⟨q_902, q_904, qs_30, q_6, q_905⟩ pd_X5_tick rfl ⟨⟨Nat.le_of_ble_eq_true rfl, Nat.le_of_ble_eq_true rfl⟩, rfl, rfl⟩ (Nat.le_of_ble_eq_true rfl) dX5_shows_53 (fun _ σ32 => ?_)
            refine go_iinc C (x16 + 1) 3 [(3, .int (x16 + 1)), (0, .ref (fh_ad E k1)), (1, .int a2), (2, .int a3)] rfl rfl rfl (by decide) dX5_shows_56 ?_
            refine go_goto C 35 dX5_shows_59 rfl ?_
            refine go_lv [1, 2, 3, 0] (lv' := [(0, .ref (fh_ad E k1)), (1, .int a2), (2, .int a3), (3, .int (x16 + 1))]) rfl ?_
            exact hr18 (x16 + 1) σ32
    · refine go_lv [0] (lv' := [(0, .ref (fh_ad E k1))]) rfl ?_
      exact hj10 σ11
theorem m_X5_shows (E : fh_E) (l : Launch) (hok : fh_ok E) (k1 : Nat) (a2 : Int32) (a3 : Int32) (σ4 : fh_S) : fh_Met E l yX5_shows cX5_shows 4 ((some FieldType.int)) rm_X5_shows fh_vI [.ref (fh_ad E k1), .int a2, .int a3] σ4 (f_X5_shows k1 a2 a3 σ4) := fh_met hok (by decide +kernel) (Nat.le_of_ble_eq_true rfl) (fun M _ C Hr => g_X5_shows C Hr k1 a2 a3 σ4)
def f_X5_meet_J21 (k1 : Nat) : fh_S → Option (Int32 × fh_S) := fun σ7 => fh_cb (f_X5_finding k1 ((-1000001 : Int32)) σ7) fun r9 σ8 => some (r9, σ8)
def f_X5_meet_J95 (k1 : Nat) : Int32 → fh_S → Option (Int32 × fh_S) := fun x24 σ25 => fh_cb (f_X5_putBack k1 x24 σ25) fun r27 σ26 => fh_cb (f_X5_orNone k1 r27 σ26) fun r29 σ28 => some (r29, σ28)
def f_X5_meet_J73 (k1 : Nat) (a2 : Int32) (a3 : Int32) (x16 : Int32) : fh_S → Option (Int32 × fh_S) := fun σ19 => fh_cb (f_X5_dialIs k1 a2 ((1 : Int32)) σ19) fun r21 σ20 => fh_cb (f_X5_dialIs k1 a3 ((1 : Int32)) σ20) fun r23 σ22 => fh_jn (f_X5_meet_J95 k1) (fun j30 => if r21 = r23 then j30 x16 σ22 else j30 ((-1 : Int32)) σ22)
def f_X5_meet_B41 (k1 : Nat) (a2 : Int32) (a3 : Int32) (r18 : Int32 → fh_S → Option (Int32 × fh_S)) : Int32 → fh_S → Option (Int32 × fh_S) := fun x16 σ17 => fh_jn (f_X5_meet_J73 k1 a2 a3 x16) (fun j31 => if ((200 : Int32)) ≤ x16 then j31 σ17 else fh_cb (f_X5_dialIs k1 a2 ((1 : Int32)) σ17) fun r33 σ32 => fh_cb (f_X5_dialIs k1 a3 ((1 : Int32)) σ32) fun r35 σ34 => if r33 = r35 then j31 σ34 else fh_cb (f_X5_tick k1 σ34) fun _ σ36 => r18 (x16 + 1) σ36)
def f_X5_meet (k1 : Nat) (a2 : Int32) (a3 : Int32) (σ4 : fh_S) : Option (Int32 × fh_S) := fh_ob 5 k1 (fh_cb (f_X5_isDial k1 a2 σ4) fun r6 σ5 => fh_jn (f_X5_meet_J21 k1) (fun j10 => if r6 = 0 then j10 σ5 else fh_cb (f_X5_isDial k1 a3 σ5) fun r12 σ11 => if r12 = 0 then j10 σ11 else if a2 = a3 then j10 σ11 else (fh_gr 5 k1 0).bind fun k13 => (fh_gr 5 k1 2).bind fun k14 => fh_cb (f_X5_copyRow k13 k14 σ11) fun _ σ15 => fh_fx (ρ := Int32 → fh_S → Option (Int32 × fh_S)) (fun _ _ => none) (f_X5_meet_B41 k1 a2 a3) fh_fu ((0 : Int32)) σ15))
abbrev rm_X5_meet : Room := { frames := 6, cells := 0, slots := 0, locals := 132 }
theorem pd_X5_meet : yX5_meet.cls ≠ "java/lang/invoke/MethodHandle" ∧ yX5_meet.cls ≠ "java/lang/invoke/VarHandle" ∧ (parseMethodDescriptor yX5_meet.desc).map (fun d => d.parameters.length) = some 2 := by decide +kernel
theorem dX5_meet_0 : decode cX5_meet 0 = .ok (.aload_n 0, 1) := by decide +kernel
theorem dX5_meet_1 : decode cX5_meet 1 = .ok (.iload_n 1, 1) := by decide +kernel
theorem dX5_meet_2 : decode cX5_meet 2 = .ok (.invokevirtual 112, 3) := by decide +kernel
theorem dX5_meet_5 : decode cX5_meet 5 = .ok (.ifCond .eq 16, 3) := by decide +kernel
theorem dX5_meet_8 : decode cX5_meet 8 = .ok (.aload_n 0, 1) := by decide +kernel
theorem dX5_meet_9 : decode cX5_meet 9 = .ok (.iload_n 2, 1) := by decide +kernel
theorem dX5_meet_10 : decode cX5_meet 10 = .ok (.invokevirtual 112, 3) := by decide +kernel
theorem dX5_meet_13 : decode cX5_meet 13 = .ok (.ifCond .eq 8, 3) := by decide +kernel
theorem dX5_meet_16 : decode cX5_meet 16 = .ok (.iload_n 1, 1) := by decide +kernel
theorem dX5_meet_17 : decode cX5_meet 17 = .ok (.iload_n 2, 1) := by decide +kernel
theorem dX5_meet_18 : decode cX5_meet 18 = .ok (.if_icmp .ne 10, 3) := by decide +kernel
theorem dX5_meet_21 : decode cX5_meet 21 = .ok (.aload_n 0, 1) := by decide +kernel
theorem dX5_meet_22 : decode cX5_meet 22 = .ok (.ldc 63, 2) := by decide +kernel
theorem dX5_meet_24 : decode cX5_meet 24 = .ok (.invokevirtual 69, 3) := by decide +kernel
theorem dX5_meet_27 : decode cX5_meet 27 = .ok (.ireturn, 1) := by decide +kernel
theorem dX5_meet_28 : decode cX5_meet 28 = .ok (.aload_n 0, 1) := by decide +kernel
theorem dX5_meet_29 : decode cX5_meet 29 = .ok (.getfield 9, 3) := by decide +kernel
theorem dX5_meet_32 : decode cX5_meet 32 = .ok (.aload_n 0, 1) := by decide +kernel
theorem dX5_meet_33 : decode cX5_meet 33 = .ok (.getfield 16, 3) := by decide +kernel
theorem dX5_meet_36 : decode cX5_meet 36 = .ok (.invokestatic 64, 3) := by decide +kernel
theorem dX5_meet_39 : decode cX5_meet 39 = .ok (.iconst 0, 1) := by decide +kernel
theorem dX5_meet_40 : decode cX5_meet 40 = .ok (.istore_n 3, 1) := by decide +kernel
theorem dX5_meet_41 : decode cX5_meet 41 = .ok (.iload_n 3, 1) := by decide +kernel
theorem dX5_meet_42 : decode cX5_meet 42 = .ok (.sipush 200, 3) := by decide +kernel
theorem dX5_meet_45 : decode cX5_meet 45 = .ok (.if_icmp .ge 28, 3) := by decide +kernel
theorem dX5_meet_48 : decode cX5_meet 48 = .ok (.aload_n 0, 1) := by decide +kernel
theorem dX5_meet_49 : decode cX5_meet 49 = .ok (.iload_n 1, 1) := by decide +kernel
theorem dX5_meet_50 : decode cX5_meet 50 = .ok (.iconst 1, 1) := by decide +kernel
theorem dX5_meet_51 : decode cX5_meet 51 = .ok (.invokevirtual 81, 3) := by decide +kernel
theorem dX5_meet_54 : decode cX5_meet 54 = .ok (.aload_n 0, 1) := by decide +kernel
theorem dX5_meet_55 : decode cX5_meet 55 = .ok (.iload_n 2, 1) := by decide +kernel
theorem dX5_meet_56 : decode cX5_meet 56 = .ok (.iconst 1, 1) := by decide +kernel
theorem dX5_meet_57 : decode cX5_meet 57 = .ok (.invokevirtual 81, 3) := by decide +kernel
theorem dX5_meet_60 : decode cX5_meet 60 = .ok (.if_icmp .eq 13, 3) := by decide +kernel
theorem dX5_meet_63 : decode cX5_meet 63 = .ok (.aload_n 0, 1) := by decide +kernel
theorem dX5_meet_64 : decode cX5_meet 64 = .ok (.invokevirtual 134, 3) := by decide +kernel
theorem dX5_meet_67 : decode cX5_meet 67 = .ok (.iinc 3 1, 3) := by decide +kernel
theorem dX5_meet_70 : decode cX5_meet 70 = .ok (.goto (-29), 3) := by decide +kernel
theorem dX5_meet_73 : decode cX5_meet 73 = .ok (.aload_n 0, 1) := by decide +kernel
theorem dX5_meet_74 : decode cX5_meet 74 = .ok (.aload_n 0, 1) := by decide +kernel
theorem dX5_meet_75 : decode cX5_meet 75 = .ok (.aload_n 0, 1) := by decide +kernel
theorem dX5_meet_76 : decode cX5_meet 76 = .ok (.iload_n 1, 1) := by decide +kernel
theorem dX5_meet_77 : decode cX5_meet 77 = .ok (.iconst 1, 1) := by decide +kernel
theorem dX5_meet_78 : decode cX5_meet 78 = .ok (.invokevirtual 81, 3) := by decide +kernel
theorem dX5_meet_81 : decode cX5_meet 81 = .ok (.aload_n 0, 1) := by decide +kernel
theorem dX5_meet_82 : decode cX5_meet 82 = .ok (.iload_n 2, 1) := by decide +kernel
theorem dX5_meet_83 : decode cX5_meet 83 = .ok (.iconst 1, 1) := by decide +kernel
theorem dX5_meet_84 : decode cX5_meet 84 = .ok (.invokevirtual 81, 3) := by decide +kernel
theorem dX5_meet_87 : decode cX5_meet 87 = .ok (.if_icmp .ne 7, 3) := by decide +kernel
theorem dX5_meet_90 : decode cX5_meet 90 = .ok (.iload_n 3, 1) := by decide +kernel
theorem dX5_meet_91 : decode cX5_meet 91 = .ok (.goto 4, 3) := by decide +kernel
theorem dX5_meet_94 : decode cX5_meet 94 = .ok (.iconst (-1), 1) := by decide +kernel
theorem dX5_meet_95 : decode cX5_meet 95 = .ok (.invokevirtual 183, 3) := by decide +kernel
theorem dX5_meet_98 : decode cX5_meet 98 = .ok (.invokevirtual 180, 3) := by decide +kernel
theorem dX5_meet_101 : decode cX5_meet 101 = .ok (.ireturn, 1) := by decide +kernel
set_option maxHeartbeats 4000000 in
set_option maxRecDepth 100000 in
theorem g_X5_meet {E : fh_E} {M : fh_M} (C : fh_Cx E M cX5_meet 4 RX5 ((some FieldType.int)) rm_X5_meet) (Hr : fh_Rt E M) (k1 : Nat) (a2 : Int32) (a3 : Int32) (σ4 : fh_S) : fh_Go E M 4 fh_vI 0 [(0, .ref (fh_ad E k1)), (1, .int a2), (2, .int a3)] [] σ4 (f_X5_meet k1 a2 a3 σ4) := by
  have hok := fh_cok C
  refine go_ob ?_
  refine go_aload_n C 0 rfl rfl dX5_meet_0 ?_
  refine go_iload_n C 1 rfl rfl dX5_meet_1 ?_
  refine go_callVI C (st := []) [.int a2] (m_X5_isDial E _ hok k1 a2 σ4) (fun _ h => fh_ob_ok h) rfl rfl ⟨q_837, q_839, qs_21, q_6, q_840⟩ pd_X5_isDial rfl ⟨⟨Nat.le_of_ble_eq_true rfl, Nat.le_of_ble_eq_true rfl⟩, rfl, rfl⟩ (Nat.le_of_ble_eq_true rfl) dX5_meet_2 (fun r6 σ5 => ?_)
  refine go_jn (fun (j10 : fh_S → Option (Int32 × fh_S)) => ∀ (σ7 : fh_S), fh_Go E M 4 fh_vI 21 [(0, .ref (fh_ad E k1))] [] σ7 (j10 σ7)) ?_ (fun j10 hj10 => ?_)
  · intro σ7
    refine go_aload_n C 0 rfl rfl dX5_meet_21 ?_
    refine go_ldc C q_820 dX5_meet_22 ?_
    refine go_callVI C (st := []) [.int ((-1000001 : Int32))] (m_X5_finding E _ hok k1 ((-1000001 : Int32)) σ7) (fun _ h => fh_ob_ok h) rfl rfl ⟨q_821, q_823, qs_19, q_6, q_824⟩ pd_X5_finding rfl ⟨⟨Nat.le_of_ble_eq_true rfl, Nat.le_of_ble_eq_true rfl⟩, rfl, rfl⟩ (Nat.le_of_ble_eq_true rfl) dX5_meet_24 (fun r9 σ8 => ?_)
    exact go_iret C Hr rfl dX5_meet_27
  refine go_if_eq (tgt := 21) C dX5_meet_5 rfl (fun _ => ?_) (fun _ => ?_)
  · refine go_lv [0] (lv' := [(0, .ref (fh_ad E k1))]) rfl ?_
    exact hj10 σ5
  · refine go_aload_n C 0 rfl rfl dX5_meet_8 ?_
    refine go_iload_n C 2 rfl rfl dX5_meet_9 ?_
    refine go_callVI C (st := []) [.int a3] (m_X5_isDial E _ hok k1 a3 σ5) (fun _ h => fh_ob_ok h) rfl rfl ⟨q_837, q_839, qs_21, q_6, q_840⟩ pd_X5_isDial rfl ⟨⟨Nat.le_of_ble_eq_true rfl, Nat.le_of_ble_eq_true rfl⟩, rfl, rfl⟩ (Nat.le_of_ble_eq_true rfl) dX5_meet_10 (fun r12 σ11 => ?_)
    refine go_if_eq (tgt := 21) C dX5_meet_13 rfl (fun _ => ?_) (fun _ => ?_)
    · refine go_lv [0] (lv' := [(0, .ref (fh_ad E k1))]) rfl ?_
      exact hj10 σ11
    · refine go_iload_n C 1 rfl rfl dX5_meet_16 ?_
      refine go_iload_n C 2 rfl rfl dX5_meet_17 ?_
      refine go_icmp_ne (tgt := 28) C dX5_meet_18 rfl (fun _ => ?_) (fun _ => ?_)
      · refine go_aload_n C 0 rfl rfl dX5_meet_28 ?_
        refine go_gr (ci := 5) (j := 0) C fh_in5 rfl (by decide) rfl q_746 dX5_meet_29 (fun k13 => ?_)
        refine go_aload_n C 0 rfl rfl dX5_meet_32 ?_
        refine go_gr (ci := 5) (j := 2) C fh_in5 rfl (by decide) rfl q_748 dX5_meet_33 (fun k14 => ?_)
        refine go_callSU C (st := []) [.ref (fh_ad E k13), .ref (fh_ad E k14)] (m_X5_copyRow E _ hok k13 k14 σ11) rfl ⟨q_993, q_994, q_6, q_995⟩ pd_X5_copyRow rfl ⟨⟨Nat.le_of_ble_eq_true rfl, Nat.le_of_ble_eq_true rfl⟩, rfl, rfl⟩ (Nat.le_of_ble_eq_true rfl) dX5_meet_36 (fun _ σ15 => ?_)
        refine go_iconst C (0 : Int32) dX5_meet_39 rfl ?_
        refine go_istore_n C [(3, .int ((0 : Int32))), (0, .ref (fh_ad E k1)), (1, .int a2), (2, .int a3)] rfl rfl (by decide) dX5_meet_40 ?_
        refine go_lv [1, 2, 3, 0] (lv' := [(0, .ref (fh_ad E k1)), (1, .int a2), (2, .int a3), (3, .int ((0 : Int32)))]) rfl ?_
        refine go_fx (fun (r18 : Int32 → fh_S → Option (Int32 × fh_S)) => ∀ (x16 : Int32) (σ17 : fh_S), fh_Go E M 4 fh_vI 41 [(0, .ref (fh_ad E k1)), (1, .int a2), (2, .int a3), (3, .int x16)] [] σ17 (r18 x16 σ17)) ?_ ?_ fh_fu ((0 : Int32)) σ15
        · intro x16 σ17
          exact go_none
        · intro r18 hr18 x16 σ17
          refine go_iload_n C 3 rfl rfl dX5_meet_41 ?_
          refine go_sipush C (200 : Int32) dX5_meet_42 rfl ?_
          refine go_jn (fun (j31 : fh_S → Option (Int32 × fh_S)) => ∀ (σ19 : fh_S), fh_Go E M 4 fh_vI 73 [(0, .ref (fh_ad E k1)), (1, .int a2), (2, .int a3), (3, .int x16)] [] σ19 (j31 σ19)) ?_ (fun j31 hj31 => ?_)
          · intro σ19
            refine go_aload_n C 0 rfl rfl dX5_meet_73 ?_
            refine go_aload_n C 0 rfl rfl dX5_meet_74 ?_
            refine go_aload_n C 0 rfl rfl dX5_meet_75 ?_
            refine go_iload_n C 1 rfl rfl dX5_meet_76 ?_
            refine go_iconst C (1 : Int32) dX5_meet_77 rfl ?_
            refine go_callVI C (st := [.ref (fh_ad E k1), .ref (fh_ad E k1)]) [.int a2, .int ((1 : Int32))] (m_X5_dialIs E _ hok k1 a2 ((1 : Int32)) σ19) (fun _ h => fh_ob_ok h) rfl rfl ⟨q_849, q_851, qs_24, q_6, q_852⟩ pd_X5_dialIs rfl ⟨⟨Nat.le_of_ble_eq_true rfl, Nat.le_of_ble_eq_true rfl⟩, rfl, rfl⟩ (Nat.le_of_ble_eq_true rfl) dX5_meet_78 (fun r21 σ20 => ?_)
            refine go_aload_n C 0 rfl rfl dX5_meet_81 ?_
            refine go_iload_n C 2 rfl rfl dX5_meet_82 ?_
            refine go_iconst C (1 : Int32) dX5_meet_83 rfl ?_
            refine go_callVI C (st := [.int r21, .ref (fh_ad E k1), .ref (fh_ad E k1)]) [.int a3, .int ((1 : Int32))] (m_X5_dialIs E _ hok k1 a3 ((1 : Int32)) σ20) (fun _ h => fh_ob_ok h) rfl rfl ⟨q_849, q_851, qs_24, q_6, q_852⟩ pd_X5_dialIs rfl ⟨⟨Nat.le_of_ble_eq_true rfl, Nat.le_of_ble_eq_true rfl⟩, rfl, rfl⟩ (Nat.le_of_ble_eq_true rfl) dX5_meet_84 (fun r23 σ22 => ?_)
            refine go_jn (fun (j30 : Int32 → fh_S → Option (Int32 × fh_S)) => ∀ (x24 : Int32) (σ25 : fh_S), fh_Go E M 4 fh_vI 95 [] [.int x24, .ref (fh_ad E k1), .ref (fh_ad E k1)] σ25 (j30 x24 σ25)) ?_ (fun j30 hj30 => ?_)
            · intro x24 σ25
              refine go_callVI C (st := [.ref (fh_ad E k1)]) [.int x24] (m_X5_putBack E _ hok k1 x24 σ25) (fun _ h => fh_ob_ok h) rfl rfl ⟨q_996, q_998, qs_43, q_6, q_999⟩ pd_X5_putBack rfl ⟨⟨Nat.le_of_ble_eq_true rfl, Nat.le_of_ble_eq_true rfl⟩, rfl, rfl⟩ (Nat.le_of_ble_eq_true rfl) dX5_meet_95 (fun r27 σ26 => ?_)
              refine go_callVI C (st := []) [.int r27] (m_X5_orNone E _ hok k1 r27 σ26) (fun _ h => fh_ob_ok h) rfl rfl ⟨q_980, q_982, qs_41, q_6, q_983⟩ pd_X5_orNone rfl ⟨⟨Nat.le_of_ble_eq_true rfl, Nat.le_of_ble_eq_true rfl⟩, rfl, rfl⟩ (Nat.le_of_ble_eq_true rfl) dX5_meet_98 (fun r29 σ28 => ?_)
              exact go_iret C Hr rfl dX5_meet_101
            refine go_icmp_ne (tgt := 94) C dX5_meet_87 rfl (fun _ => ?_) (fun _ => ?_)
            · refine go_iconst C (-1 : Int32) dX5_meet_94 rfl ?_
              refine go_lv [] (lv' := []) rfl ?_
              exact hj30 ((-1 : Int32)) σ22
            · refine go_iload_n C 3 rfl rfl dX5_meet_90 ?_
              refine go_goto C 95 dX5_meet_91 rfl ?_
              refine go_lv [] (lv' := []) rfl ?_
              exact hj30 x16 σ22
          refine go_icmp_ge (tgt := 73) C dX5_meet_45 rfl (fun _ => ?_) (fun _ => ?_)
          · exact hj31 σ17
          · refine go_aload_n C 0 rfl rfl dX5_meet_48 ?_
            refine go_iload_n C 1 rfl rfl dX5_meet_49 ?_
            refine go_iconst C (1 : Int32) dX5_meet_50 rfl ?_
            refine go_callVI C (st := []) [.int a2, .int ((1 : Int32))] (m_X5_dialIs E _ hok k1 a2 ((1 : Int32)) σ17) (fun _ h => fh_ob_ok h) rfl rfl ⟨q_849, q_851, qs_24, q_6, q_852⟩ pd_X5_dialIs rfl ⟨⟨Nat.le_of_ble_eq_true rfl, Nat.le_of_ble_eq_true rfl⟩, rfl, rfl⟩ (Nat.le_of_ble_eq_true rfl) dX5_meet_51 (fun r33 σ32 => ?_)
            refine go_aload_n C 0 rfl rfl dX5_meet_54 ?_
            refine go_iload_n C 2 rfl rfl dX5_meet_55 ?_
            refine go_iconst C (1 : Int32) dX5_meet_56 rfl ?_
            refine go_callVI C (st := [.int r33]) [.int a3, .int ((1 : Int32))] (m_X5_dialIs E _ hok k1 a3 ((1 : Int32)) σ32) (fun _ h => fh_ob_ok h) rfl rfl ⟨q_849, q_851, qs_24, q_6, q_852⟩ pd_X5_dialIs rfl ⟨⟨Nat.le_of_ble_eq_true rfl, Nat.le_of_ble_eq_true rfl⟩, rfl, rfl⟩ (Nat.le_of_ble_eq_true rfl) dX5_meet_57 (fun r35 σ34 => ?_)
            refine go_icmp_eq (tgt := 73) C dX5_meet_60 rfl (fun _ => ?_) (fun _ => ?_)
            · exact hj31 σ34
            · refine go_aload_n C 0 rfl rfl dX5_meet_63 ?_
              refine go_callVU C (st := []) [] (m_X5_tick E _ hok k1 σ34) (fun _ h => fh_ob_ok h) rfl rfl ⟨q_902, q_904, qs_30, q_6, q_905⟩ pd_X5_tick rfl ⟨⟨Nat.le_of_ble_eq_true rfl, Nat.le_of_ble_eq_true rfl⟩, rfl, rfl⟩ (Nat.le_of_ble_eq_true rfl) dX5_meet_64 (fun _ σ36 => ?_)
              refine go_iinc C (x16 + 1) 3 [(3, .int (x16 + 1)), (0, .ref (fh_ad E k1)), (1, .int a2), (2, .int a3)] rfl rfl rfl (by decide) dX5_meet_67 ?_
              refine go_goto C 41 dX5_meet_70 rfl ?_
              refine go_lv [1, 2, 3, 0] (lv' := [(0, .ref (fh_ad E k1)), (1, .int a2), (2, .int a3), (3, .int (x16 + 1))]) rfl ?_
              exact hr18 (x16 + 1) σ36
      · refine go_lv [0] (lv' := [(0, .ref (fh_ad E k1))]) rfl ?_
        exact hj10 σ11
theorem m_X5_meet (E : fh_E) (l : Launch) (hok : fh_ok E) (k1 : Nat) (a2 : Int32) (a3 : Int32) (σ4 : fh_S) : fh_Met E l yX5_meet cX5_meet 4 ((some FieldType.int)) rm_X5_meet fh_vI [.ref (fh_ad E k1), .int a2, .int a3] σ4 (f_X5_meet k1 a2 a3 σ4) := fh_met hok (by decide +kernel) (Nat.le_of_ble_eq_true rfl) (fun M _ C Hr => g_X5_meet C Hr k1 a2 a3 σ4)
def f_X5_halts_J70 (k1 : Nat) : Int32 → fh_S → Option (Int32 × fh_S) := fun x15 σ16 => fh_cb (f_X5_putBack k1 x15 σ16) fun r18 σ17 => fh_cb (f_X5_orNone k1 r18 σ17) fun r20 σ19 => some (r20, σ19)
def f_X5_halts_J54 (k1 : Nat) (a2 : Int32) (x9 : Int32) : fh_S → Option (Int32 × fh_S) := fun σ12 => fh_cb (f_X5_dialIs k1 a2 ((3 : Int32)) σ12) fun r14 σ13 => fh_jn (f_X5_halts_J70 k1) (fun j21 => if r14 = 0 then j21 x9 σ13 else j21 ((-1 : Int32)) σ13)
def f_X5_halts_B28 (k1 : Nat) (a2 : Int32) (r11 : Int32 → fh_S → Option (Int32 × fh_S)) : Int32 → fh_S → Option (Int32 × fh_S) := fun x9 σ10 => fh_jn (f_X5_halts_J54 k1 a2 x9) (fun j22 => if ((200 : Int32)) ≤ x9 then j22 σ10 else fh_cb (f_X5_dialIs k1 a2 ((3 : Int32)) σ10) fun r24 σ23 => if r24 = 0 then j22 σ23 else fh_cb (f_X5_tick k1 σ23) fun _ σ25 => r11 (x9 + 1) σ25)
def f_X5_halts (k1 : Nat) (a2 : Int32) (σ3 : fh_S) : Option (Int32 × fh_S) := fh_ob 5 k1 (fh_cb (f_X5_isDial k1 a2 σ3) fun r5 σ4 => if r5 = 0 then fh_cb (f_X5_finding k1 ((-1000001 : Int32)) σ4) fun r27 σ26 => some (r27, σ26) else (fh_gr 5 k1 0).bind fun k6 => (fh_gr 5 k1 2).bind fun k7 => fh_cb (f_X5_copyRow k6 k7 σ4) fun _ σ8 => fh_fx (ρ := Int32 → fh_S → Option (Int32 × fh_S)) (fun _ _ => none) (f_X5_halts_B28 k1 a2) fh_fu ((0 : Int32)) σ8)
abbrev rm_X5_halts : Room := { frames := 6, cells := 0, slots := 0, locals := 132 }
theorem pd_X5_halts : yX5_halts.cls ≠ "java/lang/invoke/MethodHandle" ∧ yX5_halts.cls ≠ "java/lang/invoke/VarHandle" ∧ (parseMethodDescriptor yX5_halts.desc).map (fun d => d.parameters.length) = some 1 := by decide +kernel
theorem dX5_halts_0 : decode cX5_halts 0 = .ok (.aload_n 0, 1) := by decide +kernel
theorem dX5_halts_1 : decode cX5_halts 1 = .ok (.iload_n 1, 1) := by decide +kernel
theorem dX5_halts_2 : decode cX5_halts 2 = .ok (.invokevirtual 112, 3) := by decide +kernel
theorem dX5_halts_5 : decode cX5_halts 5 = .ok (.ifCond .ne 10, 3) := by decide +kernel
theorem dX5_halts_8 : decode cX5_halts 8 = .ok (.aload_n 0, 1) := by decide +kernel
theorem dX5_halts_9 : decode cX5_halts 9 = .ok (.ldc 63, 2) := by decide +kernel
theorem dX5_halts_11 : decode cX5_halts 11 = .ok (.invokevirtual 69, 3) := by decide +kernel
theorem dX5_halts_14 : decode cX5_halts 14 = .ok (.ireturn, 1) := by decide +kernel
theorem dX5_halts_15 : decode cX5_halts 15 = .ok (.aload_n 0, 1) := by decide +kernel
theorem dX5_halts_16 : decode cX5_halts 16 = .ok (.getfield 9, 3) := by decide +kernel
theorem dX5_halts_19 : decode cX5_halts 19 = .ok (.aload_n 0, 1) := by decide +kernel
theorem dX5_halts_20 : decode cX5_halts 20 = .ok (.getfield 16, 3) := by decide +kernel
theorem dX5_halts_23 : decode cX5_halts 23 = .ok (.invokestatic 64, 3) := by decide +kernel
theorem dX5_halts_26 : decode cX5_halts 26 = .ok (.iconst 0, 1) := by decide +kernel
theorem dX5_halts_27 : decode cX5_halts 27 = .ok (.istore_n 2, 1) := by decide +kernel
theorem dX5_halts_28 : decode cX5_halts 28 = .ok (.iload_n 2, 1) := by decide +kernel
theorem dX5_halts_29 : decode cX5_halts 29 = .ok (.sipush 200, 3) := by decide +kernel
theorem dX5_halts_32 : decode cX5_halts 32 = .ok (.if_icmp .ge 22, 3) := by decide +kernel
theorem dX5_halts_35 : decode cX5_halts 35 = .ok (.aload_n 0, 1) := by decide +kernel
theorem dX5_halts_36 : decode cX5_halts 36 = .ok (.iload_n 1, 1) := by decide +kernel
theorem dX5_halts_37 : decode cX5_halts 37 = .ok (.iconst 3, 1) := by decide +kernel
theorem dX5_halts_38 : decode cX5_halts 38 = .ok (.invokevirtual 81, 3) := by decide +kernel
theorem dX5_halts_41 : decode cX5_halts 41 = .ok (.ifCond .eq 13, 3) := by decide +kernel
theorem dX5_halts_44 : decode cX5_halts 44 = .ok (.aload_n 0, 1) := by decide +kernel
theorem dX5_halts_45 : decode cX5_halts 45 = .ok (.invokevirtual 134, 3) := by decide +kernel
theorem dX5_halts_48 : decode cX5_halts 48 = .ok (.iinc 2 1, 3) := by decide +kernel
theorem dX5_halts_51 : decode cX5_halts 51 = .ok (.goto (-23), 3) := by decide +kernel
theorem dX5_halts_54 : decode cX5_halts 54 = .ok (.aload_n 0, 1) := by decide +kernel
theorem dX5_halts_55 : decode cX5_halts 55 = .ok (.aload_n 0, 1) := by decide +kernel
theorem dX5_halts_56 : decode cX5_halts 56 = .ok (.aload_n 0, 1) := by decide +kernel
theorem dX5_halts_57 : decode cX5_halts 57 = .ok (.iload_n 1, 1) := by decide +kernel
theorem dX5_halts_58 : decode cX5_halts 58 = .ok (.iconst 3, 1) := by decide +kernel
theorem dX5_halts_59 : decode cX5_halts 59 = .ok (.invokevirtual 81, 3) := by decide +kernel
theorem dX5_halts_62 : decode cX5_halts 62 = .ok (.ifCond .ne 7, 3) := by decide +kernel
theorem dX5_halts_65 : decode cX5_halts 65 = .ok (.iload_n 2, 1) := by decide +kernel
theorem dX5_halts_66 : decode cX5_halts 66 = .ok (.goto 4, 3) := by decide +kernel
theorem dX5_halts_69 : decode cX5_halts 69 = .ok (.iconst (-1), 1) := by decide +kernel
theorem dX5_halts_70 : decode cX5_halts 70 = .ok (.invokevirtual 183, 3) := by decide +kernel
theorem dX5_halts_73 : decode cX5_halts 73 = .ok (.invokevirtual 180, 3) := by decide +kernel
theorem dX5_halts_76 : decode cX5_halts 76 = .ok (.ireturn, 1) := by decide +kernel
set_option maxHeartbeats 4000000 in
set_option maxRecDepth 100000 in
theorem g_X5_halts {E : fh_E} {M : fh_M} (C : fh_Cx E M cX5_halts 3 RX5 ((some FieldType.int)) rm_X5_halts) (Hr : fh_Rt E M) (k1 : Nat) (a2 : Int32) (σ3 : fh_S) : fh_Go E M 3 fh_vI 0 [(0, .ref (fh_ad E k1)), (1, .int a2)] [] σ3 (f_X5_halts k1 a2 σ3) := by
  have hok := fh_cok C
  refine go_ob ?_
  refine go_aload_n C 0 rfl rfl dX5_halts_0 ?_
  refine go_iload_n C 1 rfl rfl dX5_halts_1 ?_
  refine go_callVI C (st := []) [.int a2] (m_X5_isDial E _ hok k1 a2 σ3) (fun _ h => fh_ob_ok h) rfl rfl ⟨q_837, q_839, qs_21, q_6, q_840⟩ pd_X5_isDial rfl ⟨⟨Nat.le_of_ble_eq_true rfl, Nat.le_of_ble_eq_true rfl⟩, rfl, rfl⟩ (Nat.le_of_ble_eq_true rfl) dX5_halts_2 (fun r5 σ4 => ?_)
  refine go_if_ne (tgt := 15) C dX5_halts_5 rfl (fun _ => ?_) (fun _ => ?_)
  · refine go_aload_n C 0 rfl rfl dX5_halts_15 ?_
    refine go_gr (ci := 5) (j := 0) C fh_in5 rfl (by decide) rfl q_746 dX5_halts_16 (fun k6 => ?_)
    refine go_aload_n C 0 rfl rfl dX5_halts_19 ?_
    refine go_gr (ci := 5) (j := 2) C fh_in5 rfl (by decide) rfl q_748 dX5_halts_20 (fun k7 => ?_)
    refine go_callSU C (st := []) [.ref (fh_ad E k6), .ref (fh_ad E k7)] (m_X5_copyRow E _ hok k6 k7 σ4) rfl ⟨q_993, q_994, q_6, q_995⟩ pd_X5_copyRow rfl ⟨⟨Nat.le_of_ble_eq_true rfl, Nat.le_of_ble_eq_true rfl⟩, rfl, rfl⟩ (Nat.le_of_ble_eq_true rfl) dX5_halts_23 (fun _ σ8 => ?_)
    refine go_iconst C (0 : Int32) dX5_halts_26 rfl ?_
    refine go_istore_n C [(2, .int ((0 : Int32))), (0, .ref (fh_ad E k1)), (1, .int a2)] rfl rfl (by decide) dX5_halts_27 ?_
    refine go_lv [1, 2, 0] (lv' := [(0, .ref (fh_ad E k1)), (1, .int a2), (2, .int ((0 : Int32)))]) rfl ?_
    refine go_fx (fun (r11 : Int32 → fh_S → Option (Int32 × fh_S)) => ∀ (x9 : Int32) (σ10 : fh_S), fh_Go E M 3 fh_vI 28 [(0, .ref (fh_ad E k1)), (1, .int a2), (2, .int x9)] [] σ10 (r11 x9 σ10)) ?_ ?_ fh_fu ((0 : Int32)) σ8
    · intro x9 σ10
      exact go_none
    · intro r11 hr11 x9 σ10
      refine go_iload_n C 2 rfl rfl dX5_halts_28 ?_
      refine go_sipush C (200 : Int32) dX5_halts_29 rfl ?_
      refine go_jn (fun (j22 : fh_S → Option (Int32 × fh_S)) => ∀ (σ12 : fh_S), fh_Go E M 3 fh_vI 54 [(0, .ref (fh_ad E k1)), (1, .int a2), (2, .int x9)] [] σ12 (j22 σ12)) ?_ (fun j22 hj22 => ?_)
      · intro σ12
        refine go_aload_n C 0 rfl rfl dX5_halts_54 ?_
        refine go_aload_n C 0 rfl rfl dX5_halts_55 ?_
        refine go_aload_n C 0 rfl rfl dX5_halts_56 ?_
        refine go_iload_n C 1 rfl rfl dX5_halts_57 ?_
        refine go_iconst C (3 : Int32) dX5_halts_58 rfl ?_
        refine go_callVI C (st := [.ref (fh_ad E k1), .ref (fh_ad E k1)]) [.int a2, .int ((3 : Int32))] (m_X5_dialIs E _ hok k1 a2 ((3 : Int32)) σ12) (fun _ h => fh_ob_ok h) rfl rfl ⟨q_849, q_851, qs_24, q_6, q_852⟩ pd_X5_dialIs rfl ⟨⟨Nat.le_of_ble_eq_true rfl, Nat.le_of_ble_eq_true rfl⟩, rfl, rfl⟩ (Nat.le_of_ble_eq_true rfl) dX5_halts_59 (fun r14 σ13 => ?_)
        refine go_jn (fun (j21 : Int32 → fh_S → Option (Int32 × fh_S)) => ∀ (x15 : Int32) (σ16 : fh_S), fh_Go E M 3 fh_vI 70 [] [.int x15, .ref (fh_ad E k1), .ref (fh_ad E k1)] σ16 (j21 x15 σ16)) ?_ (fun j21 hj21 => ?_)
        · intro x15 σ16
          refine go_callVI C (st := [.ref (fh_ad E k1)]) [.int x15] (m_X5_putBack E _ hok k1 x15 σ16) (fun _ h => fh_ob_ok h) rfl rfl ⟨q_996, q_998, qs_43, q_6, q_999⟩ pd_X5_putBack rfl ⟨⟨Nat.le_of_ble_eq_true rfl, Nat.le_of_ble_eq_true rfl⟩, rfl, rfl⟩ (Nat.le_of_ble_eq_true rfl) dX5_halts_70 (fun r18 σ17 => ?_)
          refine go_callVI C (st := []) [.int r18] (m_X5_orNone E _ hok k1 r18 σ17) (fun _ h => fh_ob_ok h) rfl rfl ⟨q_980, q_982, qs_41, q_6, q_983⟩ pd_X5_orNone rfl ⟨⟨Nat.le_of_ble_eq_true rfl, Nat.le_of_ble_eq_true rfl⟩, rfl, rfl⟩ (Nat.le_of_ble_eq_true rfl) dX5_halts_73 (fun r20 σ19 => ?_)
          exact go_iret C Hr rfl dX5_halts_76
        refine go_if_ne (tgt := 69) C dX5_halts_62 rfl (fun _ => ?_) (fun _ => ?_)
        · refine go_iconst C (-1 : Int32) dX5_halts_69 rfl ?_
          refine go_lv [] (lv' := []) rfl ?_
          exact hj21 ((-1 : Int32)) σ13
        · refine go_iload_n C 2 rfl rfl dX5_halts_65 ?_
          refine go_goto C 70 dX5_halts_66 rfl ?_
          refine go_lv [] (lv' := []) rfl ?_
          exact hj21 x9 σ13
      refine go_icmp_ge (tgt := 54) C dX5_halts_32 rfl (fun _ => ?_) (fun _ => ?_)
      · exact hj22 σ10
      · refine go_aload_n C 0 rfl rfl dX5_halts_35 ?_
        refine go_iload_n C 1 rfl rfl dX5_halts_36 ?_
        refine go_iconst C (3 : Int32) dX5_halts_37 rfl ?_
        refine go_callVI C (st := []) [.int a2, .int ((3 : Int32))] (m_X5_dialIs E _ hok k1 a2 ((3 : Int32)) σ10) (fun _ h => fh_ob_ok h) rfl rfl ⟨q_849, q_851, qs_24, q_6, q_852⟩ pd_X5_dialIs rfl ⟨⟨Nat.le_of_ble_eq_true rfl, Nat.le_of_ble_eq_true rfl⟩, rfl, rfl⟩ (Nat.le_of_ble_eq_true rfl) dX5_halts_38 (fun r24 σ23 => ?_)
        refine go_if_eq (tgt := 54) C dX5_halts_41 rfl (fun _ => ?_) (fun _ => ?_)
        · exact hj22 σ23
        · refine go_aload_n C 0 rfl rfl dX5_halts_44 ?_
          refine go_callVU C (st := []) [] (m_X5_tick E _ hok k1 σ23) (fun _ h => fh_ob_ok h) rfl rfl ⟨q_902, q_904, qs_30, q_6, q_905⟩ pd_X5_tick rfl ⟨⟨Nat.le_of_ble_eq_true rfl, Nat.le_of_ble_eq_true rfl⟩, rfl, rfl⟩ (Nat.le_of_ble_eq_true rfl) dX5_halts_45 (fun _ σ25 => ?_)
          refine go_iinc C (x9 + 1) 2 [(2, .int (x9 + 1)), (0, .ref (fh_ad E k1)), (1, .int a2)] rfl rfl rfl (by decide) dX5_halts_48 ?_
          refine go_goto C 28 dX5_halts_51 rfl ?_
          refine go_lv [1, 2, 0] (lv' := [(0, .ref (fh_ad E k1)), (1, .int a2), (2, .int (x9 + 1))]) rfl ?_
          exact hr11 (x9 + 1) σ25
  · refine go_aload_n C 0 rfl rfl dX5_halts_8 ?_
    refine go_ldc C q_820 dX5_halts_9 ?_
    refine go_callVI C (st := []) [.int ((-1000001 : Int32))] (m_X5_finding E _ hok k1 ((-1000001 : Int32)) σ4) (fun _ h => fh_ob_ok h) rfl rfl ⟨q_821, q_823, qs_19, q_6, q_824⟩ pd_X5_finding rfl ⟨⟨Nat.le_of_ble_eq_true rfl, Nat.le_of_ble_eq_true rfl⟩, rfl, rfl⟩ (Nat.le_of_ble_eq_true rfl) dX5_halts_11 (fun r27 σ26 => ?_)
    exact go_iret C Hr rfl dX5_halts_14
theorem m_X5_halts (E : fh_E) (l : Launch) (hok : fh_ok E) (k1 : Nat) (a2 : Int32) (σ3 : fh_S) : fh_Met E l yX5_halts cX5_halts 3 ((some FieldType.int)) rm_X5_halts fh_vI [.ref (fh_ad E k1), .int a2] σ3 (f_X5_halts k1 a2 σ3) := fh_met hok (by decide +kernel) (Nat.le_of_ble_eq_true rfl) (fun M _ C Hr => g_X5_halts C Hr k1 a2 σ3)
def f_X5_isSettled_J49 (r6 : Int32 → Int32 → fh_S → Option (Int32 × fh_S)) (x4 : Int32) : Int32 → fh_S → Option (Int32 × fh_S) := fun x9 σ10 => r6 x9 (x4 + 1) σ10
def f_X5_isSettled_J48 (j11 : Int32 → fh_S → Option (Int32 × fh_S)) : fh_S → Option (Int32 × fh_S) := fun σ12 => j11 ((0 : Int32)) σ12
def f_X5_isSettled_J41 (r15 : Int32) (j11 : Int32 → fh_S → Option (Int32 × fh_S)) (j13 : fh_S → Option (Int32 × fh_S)) : Int32 → fh_S → Option (Int32 × fh_S) := fun x18 σ19 => if r15 = x18 then j11 ((1 : Int32)) σ19 else j13 σ19
def f_X5_isSettled_B4 (k1 : Nat) (r6 : Int32 → Int32 → fh_S → Option (Int32 × fh_S)) : Int32 → Int32 → fh_S → Option (Int32 × fh_S) := fun x3 x4 σ5 => (fh_gr 5 k1 0).bind fun k7 => (fh_ld σ5 k7 ((1 : Int32))).bind fun v8 => if v8 ≤ x4 then fh_rz x3 σ5 else fh_jn (f_X5_isSettled_J49 r6 x4) (fun j11 => fh_jn (f_X5_isSettled_J48 j11) (fun j13 => if x3 = 0 then j13 σ5 else fh_cb (f_X5_dialIs k1 x4 ((3 : Int32)) σ5) fun r15 σ14 => fh_cb (f_X5_isStopped k1 x4 σ14) fun r17 σ16 => fh_jn (f_X5_isSettled_J41 r15 j11 j13) (fun j20 => if r17 = 0 then fh_cb (f_X5_pace k1 x4 σ16) fun r22 σ21 => j20 r22 σ21 else j20 ((0 : Int32)) σ16)))
def f_X5_isSettled (k1 : Nat) (σ2 : fh_S) : Option (Int32 × fh_S) := fh_ob 5 k1 (fh_fx (ρ := Int32 → Int32 → fh_S → Option (Int32 × fh_S)) (fun _ _ _ => none) (f_X5_isSettled_B4 k1) fh_fu ((1 : Int32)) ((0 : Int32)) σ2)
abbrev rm_X5_isSettled : Room := { frames := 5, cells := 0, slots := 0, locals := 111 }
theorem pd_X5_isSettled : yX5_isSettled.cls ≠ "java/lang/invoke/MethodHandle" ∧ yX5_isSettled.cls ≠ "java/lang/invoke/VarHandle" ∧ (parseMethodDescriptor yX5_isSettled.desc).map (fun d => d.parameters.length) = some 0 := by decide +kernel
theorem dX5_isSettled_0 : decode cX5_isSettled 0 = .ok (.iconst 1, 1) := by decide +kernel
theorem dX5_isSettled_1 : decode cX5_isSettled 1 = .ok (.istore_n 1, 1) := by decide +kernel
theorem dX5_isSettled_2 : decode cX5_isSettled 2 = .ok (.iconst 0, 1) := by decide +kernel
theorem dX5_isSettled_3 : decode cX5_isSettled 3 = .ok (.istore_n 2, 1) := by decide +kernel
theorem dX5_isSettled_4 : decode cX5_isSettled 4 = .ok (.iload_n 2, 1) := by decide +kernel
theorem dX5_isSettled_5 : decode cX5_isSettled 5 = .ok (.aload_n 0, 1) := by decide +kernel
theorem dX5_isSettled_6 : decode cX5_isSettled 6 = .ok (.getfield 9, 3) := by decide +kernel
theorem dX5_isSettled_9 : decode cX5_isSettled 9 = .ok (.iconst 1, 1) := by decide +kernel
theorem dX5_isSettled_10 : decode cX5_isSettled 10 = .ok (.iaload, 1) := by decide +kernel
theorem dX5_isSettled_11 : decode cX5_isSettled 11 = .ok (.if_icmp .ge 45, 3) := by decide +kernel
theorem dX5_isSettled_14 : decode cX5_isSettled 14 = .ok (.iload_n 1, 1) := by decide +kernel
theorem dX5_isSettled_15 : decode cX5_isSettled 15 = .ok (.ifCond .eq 33, 3) := by decide +kernel
theorem dX5_isSettled_18 : decode cX5_isSettled 18 = .ok (.aload_n 0, 1) := by decide +kernel
theorem dX5_isSettled_19 : decode cX5_isSettled 19 = .ok (.iload_n 2, 1) := by decide +kernel
theorem dX5_isSettled_20 : decode cX5_isSettled 20 = .ok (.iconst 3, 1) := by decide +kernel
theorem dX5_isSettled_21 : decode cX5_isSettled 21 = .ok (.invokevirtual 81, 3) := by decide +kernel
theorem dX5_isSettled_24 : decode cX5_isSettled 24 = .ok (.aload_n 0, 1) := by decide +kernel
theorem dX5_isSettled_25 : decode cX5_isSettled 25 = .ok (.iload_n 2, 1) := by decide +kernel
theorem dX5_isSettled_26 : decode cX5_isSettled 26 = .ok (.invokevirtual 98, 3) := by decide +kernel
theorem dX5_isSettled_29 : decode cX5_isSettled 29 = .ok (.ifCond .eq 7, 3) := by decide +kernel
theorem dX5_isSettled_32 : decode cX5_isSettled 32 = .ok (.iconst 0, 1) := by decide +kernel
theorem dX5_isSettled_33 : decode cX5_isSettled 33 = .ok (.goto 8, 3) := by decide +kernel
theorem dX5_isSettled_36 : decode cX5_isSettled 36 = .ok (.aload_n 0, 1) := by decide +kernel
theorem dX5_isSettled_37 : decode cX5_isSettled 37 = .ok (.iload_n 2, 1) := by decide +kernel
theorem dX5_isSettled_38 : decode cX5_isSettled 38 = .ok (.invokevirtual 115, 3) := by decide +kernel
theorem dX5_isSettled_41 : decode cX5_isSettled 41 = .ok (.if_icmp .ne 7, 3) := by decide +kernel
theorem dX5_isSettled_44 : decode cX5_isSettled 44 = .ok (.iconst 1, 1) := by decide +kernel
theorem dX5_isSettled_45 : decode cX5_isSettled 45 = .ok (.goto 4, 3) := by decide +kernel
theorem dX5_isSettled_48 : decode cX5_isSettled 48 = .ok (.iconst 0, 1) := by decide +kernel
theorem dX5_isSettled_49 : decode cX5_isSettled 49 = .ok (.istore_n 1, 1) := by decide +kernel
theorem dX5_isSettled_50 : decode cX5_isSettled 50 = .ok (.iinc 2 1, 3) := by decide +kernel
theorem dX5_isSettled_53 : decode cX5_isSettled 53 = .ok (.goto (-49), 3) := by decide +kernel
theorem dX5_isSettled_56 : decode cX5_isSettled 56 = .ok (.iload_n 1, 1) := by decide +kernel
theorem dX5_isSettled_57 : decode cX5_isSettled 57 = .ok (.ireturn, 1) := by decide +kernel
set_option maxHeartbeats 4000000 in
set_option maxRecDepth 100000 in
theorem g_X5_isSettled {E : fh_E} {M : fh_M} (C : fh_Cx E M cX5_isSettled 3 RX5 ((some FieldType.boolean)) rm_X5_isSettled) (Hr : fh_Rt E M) (k1 : Nat) (σ2 : fh_S) : fh_Go E M 3 fh_vI 0 [(0, .ref (fh_ad E k1))] [] σ2 (f_X5_isSettled k1 σ2) := by
  have hok := fh_cok C
  refine go_ob ?_
  refine go_iconst C (1 : Int32) dX5_isSettled_0 rfl ?_
  refine go_istore_n C [(1, .int ((1 : Int32))), (0, .ref (fh_ad E k1))] rfl rfl (by decide) dX5_isSettled_1 ?_
  refine go_iconst C (0 : Int32) dX5_isSettled_2 rfl ?_
  refine go_istore_n C [(2, .int ((0 : Int32))), (1, .int ((1 : Int32))), (0, .ref (fh_ad E k1))] rfl rfl (by decide) dX5_isSettled_3 ?_
  refine go_lv [2, 1, 0] (lv' := [(0, .ref (fh_ad E k1)), (1, .int ((1 : Int32))), (2, .int ((0 : Int32)))]) rfl ?_
  refine go_fx (fun (r6 : Int32 → Int32 → fh_S → Option (Int32 × fh_S)) => ∀ (x3 : Int32) (x4 : Int32) (σ5 : fh_S), fh_Go E M 3 fh_vI 4 [(0, .ref (fh_ad E k1)), (1, .int x3), (2, .int x4)] [] σ5 (r6 x3 x4 σ5)) ?_ ?_ fh_fu ((1 : Int32)) ((0 : Int32)) σ2
  · intro x3 x4 σ5
    exact go_none
  · intro r6 hr6 x3 x4 σ5
    refine go_iload_n C 2 rfl rfl dX5_isSettled_4 ?_
    refine go_aload_n C 0 rfl rfl dX5_isSettled_5 ?_
    refine go_gr (ci := 5) (j := 0) C fh_in5 rfl (by decide) rfl q_746 dX5_isSettled_6 (fun k7 => ?_)
    refine go_iconst C (1 : Int32) dX5_isSettled_9 rfl ?_
    refine go_iald C dX5_isSettled_10 (fun v8 => ?_)
    refine go_icmp_ge (tgt := 56) C dX5_isSettled_11 rfl (fun _ => ?_) (fun _ => ?_)
    · refine go_iload_n C 1 rfl rfl dX5_isSettled_56 ?_
      exact go_zret C Hr dX5_isSettled_57
    · refine go_iload_n C 1 rfl rfl dX5_isSettled_14 ?_
      refine go_jn (fun (j11 : Int32 → fh_S → Option (Int32 × fh_S)) => ∀ (x9 : Int32) (σ10 : fh_S), fh_Go E M 3 fh_vI 49 [(0, .ref (fh_ad E k1)), (2, .int x4)] [.int x9] σ10 (j11 x9 σ10)) ?_ (fun j11 hj11 => ?_)
      · intro x9 σ10
        refine go_istore_n C [(1, .int x9), (0, .ref (fh_ad E k1)), (2, .int x4)] rfl rfl (by decide) dX5_isSettled_49 ?_
        refine go_iinc C (x4 + 1) 2 [(2, .int (x4 + 1)), (1, .int x9), (0, .ref (fh_ad E k1))] rfl rfl rfl (by decide) dX5_isSettled_50 ?_
        refine go_goto C 4 dX5_isSettled_53 rfl ?_
        refine go_lv [2, 1, 0] (lv' := [(0, .ref (fh_ad E k1)), (1, .int x9), (2, .int (x4 + 1))]) rfl ?_
        exact hr6 x9 (x4 + 1) σ10
      refine go_jn (fun (j13 : fh_S → Option (Int32 × fh_S)) => ∀ (σ12 : fh_S), fh_Go E M 3 fh_vI 48 [(0, .ref (fh_ad E k1)), (2, .int x4)] [] σ12 (j13 σ12)) ?_ (fun j13 hj13 => ?_)
      · intro σ12
        refine go_iconst C (0 : Int32) dX5_isSettled_48 rfl ?_
        exact hj11 ((0 : Int32)) σ12
      refine go_if_eq (tgt := 48) C dX5_isSettled_15 rfl (fun _ => ?_) (fun _ => ?_)
      · refine go_lv [0, 2] (lv' := [(0, .ref (fh_ad E k1)), (2, .int x4)]) rfl ?_
        exact hj13 σ5
      · refine go_aload_n C 0 rfl rfl dX5_isSettled_18 ?_
        refine go_iload_n C 2 rfl rfl dX5_isSettled_19 ?_
        refine go_iconst C (3 : Int32) dX5_isSettled_20 rfl ?_
        refine go_callVI C (st := []) [.int x4, .int ((3 : Int32))] (m_X5_dialIs E _ hok k1 x4 ((3 : Int32)) σ5) (fun _ h => fh_ob_ok h) rfl rfl ⟨q_849, q_851, qs_24, q_6, q_852⟩ pd_X5_dialIs rfl ⟨⟨Nat.le_of_ble_eq_true rfl, Nat.le_of_ble_eq_true rfl⟩, rfl, rfl⟩ (Nat.le_of_ble_eq_true rfl) dX5_isSettled_21 (fun r15 σ14 => ?_)
        refine go_aload_n C 0 rfl rfl dX5_isSettled_24 ?_
        refine go_iload_n C 2 rfl rfl dX5_isSettled_25 ?_
        refine go_callVI C (st := [.int r15]) [.int x4] (m_X5_isStopped E _ hok k1 x4 σ14) (fun _ h => fh_ob_ok h) rfl rfl ⟨q_856, q_858, qs_25, q_6, q_859⟩ pd_X5_isStopped rfl ⟨⟨Nat.le_of_ble_eq_true rfl, Nat.le_of_ble_eq_true rfl⟩, rfl, rfl⟩ (Nat.le_of_ble_eq_true rfl) dX5_isSettled_26 (fun r17 σ16 => ?_)
        refine go_jn (fun (j20 : Int32 → fh_S → Option (Int32 × fh_S)) => ∀ (x18 : Int32) (σ19 : fh_S), fh_Go E M 3 fh_vI 41 [(0, .ref (fh_ad E k1)), (2, .int x4)] [.int x18, .int r15] σ19 (j20 x18 σ19)) ?_ (fun j20 hj20 => ?_)
        · intro x18 σ19
          refine go_icmp_ne (tgt := 48) C dX5_isSettled_41 rfl (fun _ => ?_) (fun _ => ?_)
          · exact hj13 σ19
          · refine go_iconst C (1 : Int32) dX5_isSettled_44 rfl ?_
            refine go_goto C 49 dX5_isSettled_45 rfl ?_
            exact hj11 ((1 : Int32)) σ19
        refine go_if_eq (tgt := 36) C dX5_isSettled_29 rfl (fun _ => ?_) (fun _ => ?_)
        · refine go_aload_n C 0 rfl rfl dX5_isSettled_36 ?_
          refine go_iload_n C 2 rfl rfl dX5_isSettled_37 ?_
          refine go_callVI C (st := [.int r15]) [.int x4] (m_X5_pace E _ hok k1 x4 σ16) (fun _ h => fh_ob_ok h) rfl rfl ⟨q_841, q_843, qs_22, q_6, q_844⟩ pd_X5_pace rfl ⟨⟨Nat.le_of_ble_eq_true rfl, Nat.le_of_ble_eq_true rfl⟩, rfl, rfl⟩ (Nat.le_of_ble_eq_true rfl) dX5_isSettled_38 (fun r22 σ21 => ?_)
          refine go_lv [0, 2] (lv' := [(0, .ref (fh_ad E k1)), (2, .int x4)]) rfl ?_
          exact hj20 r22 σ21
        · refine go_iconst C (0 : Int32) dX5_isSettled_32 rfl ?_
          refine go_goto C 41 dX5_isSettled_33 rfl ?_
          refine go_lv [0, 2] (lv' := [(0, .ref (fh_ad E k1)), (2, .int x4)]) rfl ?_
          exact hj20 ((0 : Int32)) σ16
theorem m_X5_isSettled (E : fh_E) (l : Launch) (hok : fh_ok E) (k1 : Nat) (σ2 : fh_S) : fh_Met E l yX5_isSettled cX5_isSettled 3 ((some FieldType.boolean)) rm_X5_isSettled fh_vI [.ref (fh_ad E k1)] σ2 (f_X5_isSettled k1 σ2) := fh_met hok (by decide +kernel) (Nat.le_of_ble_eq_true rfl) (fun M _ C Hr => g_X5_isSettled C Hr k1 σ2)
def f_X5_settles_J50 (k1 : Nat) : Int32 → fh_S → Option (Int32 × fh_S) := fun x12 σ13 => fh_cb (f_X5_putBack k1 x12 σ13) fun r15 σ14 => fh_cb (f_X5_orNone k1 r15 σ14) fun r17 σ16 => some (r17, σ16)
def f_X5_settles_J36 (k1 : Nat) (x6 : Int32) : fh_S → Option (Int32 × fh_S) := fun σ9 => fh_cb (f_X5_isSettled k1 σ9) fun r11 σ10 => fh_jn (f_X5_settles_J50 k1) (fun j18 => if r11 = 0 then j18 ((-1 : Int32)) σ10 else j18 x6 σ10)
def f_X5_settles_B13 (k1 : Nat) (r8 : Int32 → fh_S → Option (Int32 × fh_S)) : Int32 → fh_S → Option (Int32 × fh_S) := fun x6 σ7 => fh_jn (f_X5_settles_J36 k1 x6) (fun j19 => if ((100 : Int32)) ≤ x6 then j19 σ7 else fh_cb (f_X5_isSettled k1 σ7) fun r21 σ20 => if r21 = 0 then fh_cb (f_X5_tick k1 σ20) fun _ σ22 => r8 (x6 + 1) σ22 else j19 σ20)
def f_X5_settles (k1 : Nat) (σ2 : fh_S) : Option (Int32 × fh_S) := fh_ob 5 k1 ((fh_gr 5 k1 0).bind fun k3 => (fh_gr 5 k1 2).bind fun k4 => fh_cb (f_X5_copyRow k3 k4 σ2) fun _ σ5 => fh_fx (ρ := Int32 → fh_S → Option (Int32 × fh_S)) (fun _ _ => none) (f_X5_settles_B13 k1) fh_fu ((0 : Int32)) σ5)
abbrev rm_X5_settles : Room := { frames := 6, cells := 0, slots := 0, locals := 133 }
theorem pd_X5_settles : yX5_settles.cls ≠ "java/lang/invoke/MethodHandle" ∧ yX5_settles.cls ≠ "java/lang/invoke/VarHandle" ∧ (parseMethodDescriptor yX5_settles.desc).map (fun d => d.parameters.length) = some 0 := by decide +kernel
theorem dX5_settles_0 : decode cX5_settles 0 = .ok (.aload_n 0, 1) := by decide +kernel
theorem dX5_settles_1 : decode cX5_settles 1 = .ok (.getfield 9, 3) := by decide +kernel
theorem dX5_settles_4 : decode cX5_settles 4 = .ok (.aload_n 0, 1) := by decide +kernel
theorem dX5_settles_5 : decode cX5_settles 5 = .ok (.getfield 16, 3) := by decide +kernel
theorem dX5_settles_8 : decode cX5_settles 8 = .ok (.invokestatic 64, 3) := by decide +kernel
theorem dX5_settles_11 : decode cX5_settles 11 = .ok (.iconst 0, 1) := by decide +kernel
theorem dX5_settles_12 : decode cX5_settles 12 = .ok (.istore_n 1, 1) := by decide +kernel
theorem dX5_settles_13 : decode cX5_settles 13 = .ok (.iload_n 1, 1) := by decide +kernel
theorem dX5_settles_14 : decode cX5_settles 14 = .ok (.bipush 100, 2) := by decide +kernel
theorem dX5_settles_16 : decode cX5_settles 16 = .ok (.if_icmp .ge 20, 3) := by decide +kernel
theorem dX5_settles_19 : decode cX5_settles 19 = .ok (.aload_n 0, 1) := by decide +kernel
theorem dX5_settles_20 : decode cX5_settles 20 = .ok (.invokevirtual 190, 3) := by decide +kernel
theorem dX5_settles_23 : decode cX5_settles 23 = .ok (.ifCond .ne 13, 3) := by decide +kernel
theorem dX5_settles_26 : decode cX5_settles 26 = .ok (.aload_n 0, 1) := by decide +kernel
theorem dX5_settles_27 : decode cX5_settles 27 = .ok (.invokevirtual 134, 3) := by decide +kernel
theorem dX5_settles_30 : decode cX5_settles 30 = .ok (.iinc 1 1, 3) := by decide +kernel
theorem dX5_settles_33 : decode cX5_settles 33 = .ok (.goto (-20), 3) := by decide +kernel
theorem dX5_settles_36 : decode cX5_settles 36 = .ok (.aload_n 0, 1) := by decide +kernel
theorem dX5_settles_37 : decode cX5_settles 37 = .ok (.aload_n 0, 1) := by decide +kernel
theorem dX5_settles_38 : decode cX5_settles 38 = .ok (.aload_n 0, 1) := by decide +kernel
theorem dX5_settles_39 : decode cX5_settles 39 = .ok (.invokevirtual 190, 3) := by decide +kernel
theorem dX5_settles_42 : decode cX5_settles 42 = .ok (.ifCond .eq 7, 3) := by decide +kernel
theorem dX5_settles_45 : decode cX5_settles 45 = .ok (.iload_n 1, 1) := by decide +kernel
theorem dX5_settles_46 : decode cX5_settles 46 = .ok (.goto 4, 3) := by decide +kernel
theorem dX5_settles_49 : decode cX5_settles 49 = .ok (.iconst (-1), 1) := by decide +kernel
theorem dX5_settles_50 : decode cX5_settles 50 = .ok (.invokevirtual 183, 3) := by decide +kernel
theorem dX5_settles_53 : decode cX5_settles 53 = .ok (.invokevirtual 180, 3) := by decide +kernel
theorem dX5_settles_56 : decode cX5_settles 56 = .ok (.ireturn, 1) := by decide +kernel
set_option maxHeartbeats 4000000 in
set_option maxRecDepth 100000 in
theorem g_X5_settles {E : fh_E} {M : fh_M} (C : fh_Cx E M cX5_settles 2 RX5 ((some FieldType.int)) rm_X5_settles) (Hr : fh_Rt E M) (k1 : Nat) (σ2 : fh_S) : fh_Go E M 2 fh_vI 0 [(0, .ref (fh_ad E k1))] [] σ2 (f_X5_settles k1 σ2) := by
  have hok := fh_cok C
  refine go_ob ?_
  refine go_aload_n C 0 rfl rfl dX5_settles_0 ?_
  refine go_gr (ci := 5) (j := 0) C fh_in5 rfl (by decide) rfl q_746 dX5_settles_1 (fun k3 => ?_)
  refine go_aload_n C 0 rfl rfl dX5_settles_4 ?_
  refine go_gr (ci := 5) (j := 2) C fh_in5 rfl (by decide) rfl q_748 dX5_settles_5 (fun k4 => ?_)
  refine go_callSU C (st := []) [.ref (fh_ad E k3), .ref (fh_ad E k4)] (m_X5_copyRow E _ hok k3 k4 σ2) rfl ⟨q_993, q_994, q_6, q_995⟩ pd_X5_copyRow rfl ⟨⟨Nat.le_of_ble_eq_true rfl, Nat.le_of_ble_eq_true rfl⟩, rfl, rfl⟩ (Nat.le_of_ble_eq_true rfl) dX5_settles_8 (fun _ σ5 => ?_)
  refine go_iconst C (0 : Int32) dX5_settles_11 rfl ?_
  refine go_istore_n C [(1, .int ((0 : Int32))), (0, .ref (fh_ad E k1))] rfl rfl (by decide) dX5_settles_12 ?_
  refine go_lv [1, 0] (lv' := [(0, .ref (fh_ad E k1)), (1, .int ((0 : Int32)))]) rfl ?_
  refine go_fx (fun (r8 : Int32 → fh_S → Option (Int32 × fh_S)) => ∀ (x6 : Int32) (σ7 : fh_S), fh_Go E M 2 fh_vI 13 [(0, .ref (fh_ad E k1)), (1, .int x6)] [] σ7 (r8 x6 σ7)) ?_ ?_ fh_fu ((0 : Int32)) σ5
  · intro x6 σ7
    exact go_none
  · intro r8 hr8 x6 σ7
    refine go_iload_n C 1 rfl rfl dX5_settles_13 ?_
    refine go_bipush C (100 : Int32) dX5_settles_14 rfl ?_
    refine go_jn (fun (j19 : fh_S → Option (Int32 × fh_S)) => ∀ (σ9 : fh_S), fh_Go E M 2 fh_vI 36 [(0, .ref (fh_ad E k1)), (1, .int x6)] [] σ9 (j19 σ9)) ?_ (fun j19 hj19 => ?_)
    · intro σ9
      refine go_aload_n C 0 rfl rfl dX5_settles_36 ?_
      refine go_aload_n C 0 rfl rfl dX5_settles_37 ?_
      refine go_aload_n C 0 rfl rfl dX5_settles_38 ?_
      refine go_callVI C (st := [.ref (fh_ad E k1), .ref (fh_ad E k1)]) [] (m_X5_isSettled E _ hok k1 σ9) (fun _ h => fh_ob_ok h) rfl rfl ⟨q_1020, q_1022, qs_44, q_6, q_1023⟩ pd_X5_isSettled rfl ⟨⟨Nat.le_of_ble_eq_true rfl, Nat.le_of_ble_eq_true rfl⟩, rfl, rfl⟩ (Nat.le_of_ble_eq_true rfl) dX5_settles_39 (fun r11 σ10 => ?_)
      refine go_jn (fun (j18 : Int32 → fh_S → Option (Int32 × fh_S)) => ∀ (x12 : Int32) (σ13 : fh_S), fh_Go E M 2 fh_vI 50 [] [.int x12, .ref (fh_ad E k1), .ref (fh_ad E k1)] σ13 (j18 x12 σ13)) ?_ (fun j18 hj18 => ?_)
      · intro x12 σ13
        refine go_callVI C (st := [.ref (fh_ad E k1)]) [.int x12] (m_X5_putBack E _ hok k1 x12 σ13) (fun _ h => fh_ob_ok h) rfl rfl ⟨q_996, q_998, qs_43, q_6, q_999⟩ pd_X5_putBack rfl ⟨⟨Nat.le_of_ble_eq_true rfl, Nat.le_of_ble_eq_true rfl⟩, rfl, rfl⟩ (Nat.le_of_ble_eq_true rfl) dX5_settles_50 (fun r15 σ14 => ?_)
        refine go_callVI C (st := []) [.int r15] (m_X5_orNone E _ hok k1 r15 σ14) (fun _ h => fh_ob_ok h) rfl rfl ⟨q_980, q_982, qs_41, q_6, q_983⟩ pd_X5_orNone rfl ⟨⟨Nat.le_of_ble_eq_true rfl, Nat.le_of_ble_eq_true rfl⟩, rfl, rfl⟩ (Nat.le_of_ble_eq_true rfl) dX5_settles_53 (fun r17 σ16 => ?_)
        exact go_iret C Hr rfl dX5_settles_56
      refine go_if_eq (tgt := 49) C dX5_settles_42 rfl (fun _ => ?_) (fun _ => ?_)
      · refine go_iconst C (-1 : Int32) dX5_settles_49 rfl ?_
        refine go_lv [] (lv' := []) rfl ?_
        exact hj18 ((-1 : Int32)) σ10
      · refine go_iload_n C 1 rfl rfl dX5_settles_45 ?_
        refine go_goto C 50 dX5_settles_46 rfl ?_
        refine go_lv [] (lv' := []) rfl ?_
        exact hj18 x6 σ10
    refine go_icmp_ge (tgt := 36) C dX5_settles_16 rfl (fun _ => ?_) (fun _ => ?_)
    · exact hj19 σ7
    · refine go_aload_n C 0 rfl rfl dX5_settles_19 ?_
      refine go_callVI C (st := []) [] (m_X5_isSettled E _ hok k1 σ7) (fun _ h => fh_ob_ok h) rfl rfl ⟨q_1020, q_1022, qs_44, q_6, q_1023⟩ pd_X5_isSettled rfl ⟨⟨Nat.le_of_ble_eq_true rfl, Nat.le_of_ble_eq_true rfl⟩, rfl, rfl⟩ (Nat.le_of_ble_eq_true rfl) dX5_settles_20 (fun r21 σ20 => ?_)
      refine go_if_ne (tgt := 36) C dX5_settles_23 rfl (fun _ => ?_) (fun _ => ?_)
      · exact hj19 σ20
      · refine go_aload_n C 0 rfl rfl dX5_settles_26 ?_
        refine go_callVU C (st := []) [] (m_X5_tick E _ hok k1 σ20) (fun _ h => fh_ob_ok h) rfl rfl ⟨q_902, q_904, qs_30, q_6, q_905⟩ pd_X5_tick rfl ⟨⟨Nat.le_of_ble_eq_true rfl, Nat.le_of_ble_eq_true rfl⟩, rfl, rfl⟩ (Nat.le_of_ble_eq_true rfl) dX5_settles_27 (fun _ σ22 => ?_)
        refine go_iinc C (x6 + 1) 1 [(1, .int (x6 + 1)), (0, .ref (fh_ad E k1))] rfl rfl rfl (by decide) dX5_settles_30 ?_
        refine go_goto C 13 dX5_settles_33 rfl ?_
        refine go_lv [1, 0] (lv' := [(0, .ref (fh_ad E k1)), (1, .int (x6 + 1))]) rfl ?_
        exact hr8 (x6 + 1) σ22
theorem m_X5_settles (E : fh_E) (l : Launch) (hok : fh_ok E) (k1 : Nat) (σ2 : fh_S) : fh_Met E l yX5_settles cX5_settles 2 ((some FieldType.int)) rm_X5_settles fh_vI [.ref (fh_ad E k1)] σ2 (f_X5_settles k1 σ2) := fh_met hok (by decide +kernel) (Nat.le_of_ble_eq_true rfl) (fun M _ C Hr => g_X5_settles C Hr k1 σ2)
def f_X5_farIn_B16 (a3 : Int32) (k1 : Nat) (a2 : Int32) (r11 : Int32 → Int32 → fh_S → Option (Int32 × fh_S)) : Int32 → Int32 → fh_S → Option (Int32 × fh_S) := fun x8 x9 σ10 => if a3 ≤ x9 then fh_cb (f_X5_putBack k1 x8 σ10) fun r13 σ12 => some (r13, σ12) else fh_cb (f_X5_tick k1 σ10) fun _ σ14 => fh_cb (f_X5_dialIs k1 a2 ((3 : Int32)) σ14) fun r16 σ15 => fh_cb (f_J9_abs_0f7a4 r16 σ15) fun r18 σ17 => r11 (x8 + r18) (x9 + 1) σ17
def f_X5_farIn (k1 : Nat) (a2 : Int32) (a3 : Int32) (σ4 : fh_S) : Option (Int32 × fh_S) := fh_ob 5 k1 ((fh_gr 5 k1 0).bind fun k5 => (fh_gr 5 k1 2).bind fun k6 => fh_cb (f_X5_copyRow k5 k6 σ4) fun _ σ7 => fh_fx (ρ := Int32 → Int32 → fh_S → Option (Int32 × fh_S)) (fun _ _ _ => none) (f_X5_farIn_B16 a3 k1 a2) fh_fu ((0 : Int32)) ((0 : Int32)) σ7)
abbrev rm_X5_farIn : Room := { frames := 6, cells := 0, slots := 0, locals := 132 }
theorem pd_X5_farIn : yX5_farIn.cls ≠ "java/lang/invoke/MethodHandle" ∧ yX5_farIn.cls ≠ "java/lang/invoke/VarHandle" ∧ (parseMethodDescriptor yX5_farIn.desc).map (fun d => d.parameters.length) = some 2 := by decide +kernel
theorem dX5_farIn_0 : decode cX5_farIn 0 = .ok (.aload_n 0, 1) := by decide +kernel
theorem dX5_farIn_1 : decode cX5_farIn 1 = .ok (.getfield 9, 3) := by decide +kernel
theorem dX5_farIn_4 : decode cX5_farIn 4 = .ok (.aload_n 0, 1) := by decide +kernel
theorem dX5_farIn_5 : decode cX5_farIn 5 = .ok (.getfield 16, 3) := by decide +kernel
theorem dX5_farIn_8 : decode cX5_farIn 8 = .ok (.invokestatic 64, 3) := by decide +kernel
theorem dX5_farIn_11 : decode cX5_farIn 11 = .ok (.iconst 0, 1) := by decide +kernel
theorem dX5_farIn_12 : decode cX5_farIn 12 = .ok (.istore_n 3, 1) := by decide +kernel
theorem dX5_farIn_13 : decode cX5_farIn 13 = .ok (.iconst 0, 1) := by decide +kernel
theorem dX5_farIn_14 : decode cX5_farIn 14 = .ok (.istore 4, 2) := by decide +kernel
theorem dX5_farIn_16 : decode cX5_farIn 16 = .ok (.iload 4, 2) := by decide +kernel
theorem dX5_farIn_18 : decode cX5_farIn 18 = .ok (.iload_n 2, 1) := by decide +kernel
theorem dX5_farIn_19 : decode cX5_farIn 19 = .ok (.if_icmp .ge 25, 3) := by decide +kernel
theorem dX5_farIn_22 : decode cX5_farIn 22 = .ok (.aload_n 0, 1) := by decide +kernel
theorem dX5_farIn_23 : decode cX5_farIn 23 = .ok (.invokevirtual 134, 3) := by decide +kernel
theorem dX5_farIn_26 : decode cX5_farIn 26 = .ok (.iload_n 3, 1) := by decide +kernel
theorem dX5_farIn_27 : decode cX5_farIn 27 = .ok (.aload_n 0, 1) := by decide +kernel
theorem dX5_farIn_28 : decode cX5_farIn 28 = .ok (.iload_n 1, 1) := by decide +kernel
theorem dX5_farIn_29 : decode cX5_farIn 29 = .ok (.iconst 3, 1) := by decide +kernel
theorem dX5_farIn_30 : decode cX5_farIn 30 = .ok (.invokevirtual 81, 3) := by decide +kernel
theorem dX5_farIn_33 : decode cX5_farIn 33 = .ok (.invokestatic 194, 3) := by decide +kernel
theorem dX5_farIn_36 : decode cX5_farIn 36 = .ok (.iadd, 1) := by decide +kernel
theorem dX5_farIn_37 : decode cX5_farIn 37 = .ok (.istore_n 3, 1) := by decide +kernel
theorem dX5_farIn_38 : decode cX5_farIn 38 = .ok (.iinc 4 1, 3) := by decide +kernel
theorem dX5_farIn_41 : decode cX5_farIn 41 = .ok (.goto (-25), 3) := by decide +kernel
theorem dX5_farIn_44 : decode cX5_farIn 44 = .ok (.aload_n 0, 1) := by decide +kernel
theorem dX5_farIn_45 : decode cX5_farIn 45 = .ok (.iload_n 3, 1) := by decide +kernel
theorem dX5_farIn_46 : decode cX5_farIn 46 = .ok (.invokevirtual 183, 3) := by decide +kernel
theorem dX5_farIn_49 : decode cX5_farIn 49 = .ok (.ireturn, 1) := by decide +kernel
set_option maxHeartbeats 4000000 in
set_option maxRecDepth 100000 in
theorem g_X5_farIn {E : fh_E} {M : fh_M} (C : fh_Cx E M cX5_farIn 5 RX5 ((some FieldType.int)) rm_X5_farIn) (Hr : fh_Rt E M) (k1 : Nat) (a2 : Int32) (a3 : Int32) (σ4 : fh_S) : fh_Go E M 5 fh_vI 0 [(0, .ref (fh_ad E k1)), (1, .int a2), (2, .int a3)] [] σ4 (f_X5_farIn k1 a2 a3 σ4) := by
  have hok := fh_cok C
  refine go_ob ?_
  refine go_aload_n C 0 rfl rfl dX5_farIn_0 ?_
  refine go_gr (ci := 5) (j := 0) C fh_in5 rfl (by decide) rfl q_746 dX5_farIn_1 (fun k5 => ?_)
  refine go_aload_n C 0 rfl rfl dX5_farIn_4 ?_
  refine go_gr (ci := 5) (j := 2) C fh_in5 rfl (by decide) rfl q_748 dX5_farIn_5 (fun k6 => ?_)
  refine go_callSU C (st := []) [.ref (fh_ad E k5), .ref (fh_ad E k6)] (m_X5_copyRow E _ hok k5 k6 σ4) rfl ⟨q_993, q_994, q_6, q_995⟩ pd_X5_copyRow rfl ⟨⟨Nat.le_of_ble_eq_true rfl, Nat.le_of_ble_eq_true rfl⟩, rfl, rfl⟩ (Nat.le_of_ble_eq_true rfl) dX5_farIn_8 (fun _ σ7 => ?_)
  refine go_iconst C (0 : Int32) dX5_farIn_11 rfl ?_
  refine go_istore_n C [(3, .int ((0 : Int32))), (0, .ref (fh_ad E k1)), (1, .int a2), (2, .int a3)] rfl rfl (by decide) dX5_farIn_12 ?_
  refine go_iconst C (0 : Int32) dX5_farIn_13 rfl ?_
  refine go_istore C [(4, .int ((0 : Int32))), (3, .int ((0 : Int32))), (0, .ref (fh_ad E k1)), (1, .int a2), (2, .int a3)] rfl (by decide) dX5_farIn_14 ?_
  refine go_lv [2, 3, 4, 1, 0] (lv' := [(0, .ref (fh_ad E k1)), (1, .int a2), (2, .int a3), (3, .int ((0 : Int32))), (4, .int ((0 : Int32)))]) rfl ?_
  refine go_fx (fun (r11 : Int32 → Int32 → fh_S → Option (Int32 × fh_S)) => ∀ (x8 : Int32) (x9 : Int32) (σ10 : fh_S), fh_Go E M 5 fh_vI 16 [(0, .ref (fh_ad E k1)), (1, .int a2), (2, .int a3), (3, .int x8), (4, .int x9)] [] σ10 (r11 x8 x9 σ10)) ?_ ?_ fh_fu ((0 : Int32)) ((0 : Int32)) σ7
  · intro x8 x9 σ10
    exact go_none
  · intro r11 hr11 x8 x9 σ10
    refine go_iload C 4 rfl dX5_farIn_16 ?_
    refine go_iload_n C 2 rfl rfl dX5_farIn_18 ?_
    refine go_icmp_ge (tgt := 44) C dX5_farIn_19 rfl (fun _ => ?_) (fun _ => ?_)
    · refine go_aload_n C 0 rfl rfl dX5_farIn_44 ?_
      refine go_iload_n C 3 rfl rfl dX5_farIn_45 ?_
      refine go_callVI C (st := []) [.int x8] (m_X5_putBack E _ hok k1 x8 σ10) (fun _ h => fh_ob_ok h) rfl rfl ⟨q_996, q_998, qs_43, q_6, q_999⟩ pd_X5_putBack rfl ⟨⟨Nat.le_of_ble_eq_true rfl, Nat.le_of_ble_eq_true rfl⟩, rfl, rfl⟩ (Nat.le_of_ble_eq_true rfl) dX5_farIn_46 (fun r13 σ12 => ?_)
      exact go_iret C Hr rfl dX5_farIn_49
    · refine go_aload_n C 0 rfl rfl dX5_farIn_22 ?_
      refine go_callVU C (st := []) [] (m_X5_tick E _ hok k1 σ10) (fun _ h => fh_ob_ok h) rfl rfl ⟨q_902, q_904, qs_30, q_6, q_905⟩ pd_X5_tick rfl ⟨⟨Nat.le_of_ble_eq_true rfl, Nat.le_of_ble_eq_true rfl⟩, rfl, rfl⟩ (Nat.le_of_ble_eq_true rfl) dX5_farIn_23 (fun _ σ14 => ?_)
      refine go_iload_n C 3 rfl rfl dX5_farIn_26 ?_
      refine go_aload_n C 0 rfl rfl dX5_farIn_27 ?_
      refine go_iload_n C 1 rfl rfl dX5_farIn_28 ?_
      refine go_iconst C (3 : Int32) dX5_farIn_29 rfl ?_
      refine go_callVI C (st := [.int x8]) [.int a2, .int ((3 : Int32))] (m_X5_dialIs E _ hok k1 a2 ((3 : Int32)) σ14) (fun _ h => fh_ob_ok h) rfl rfl ⟨q_849, q_851, qs_24, q_6, q_852⟩ pd_X5_dialIs rfl ⟨⟨Nat.le_of_ble_eq_true rfl, Nat.le_of_ble_eq_true rfl⟩, rfl, rfl⟩ (Nat.le_of_ble_eq_true rfl) dX5_farIn_30 (fun r16 σ15 => ?_)
      refine go_callSI C (st := [.int x8]) [.int r16] (m_J9_abs_0f7a4 E _ hok r16 σ15) rfl ⟨q_1032, q_212, q_7, q_213⟩ pd_J9_abs_0f7a4 rfl ⟨⟨Nat.le_of_ble_eq_true rfl, Nat.le_of_ble_eq_true rfl⟩, rfl, rfl⟩ (Nat.le_of_ble_eq_true rfl) dX5_farIn_33 (fun r18 σ17 => ?_)
      refine go_iadd C dX5_farIn_36 ?_
      refine go_istore_n C [(3, .int (x8 + r18)), (0, .ref (fh_ad E k1)), (1, .int a2), (2, .int a3), (4, .int x9)] rfl rfl (by decide) dX5_farIn_37 ?_
      refine go_iinc C (x9 + 1) 4 [(4, .int (x9 + 1)), (3, .int (x8 + r18)), (0, .ref (fh_ad E k1)), (1, .int a2), (2, .int a3)] rfl rfl rfl (by decide) dX5_farIn_38 ?_
      refine go_goto C 16 dX5_farIn_41 rfl ?_
      refine go_lv [2, 3, 4, 1, 0] (lv' := [(0, .ref (fh_ad E k1)), (1, .int a2), (2, .int a3), (3, .int (x8 + r18)), (4, .int (x9 + 1))]) rfl ?_
      exact hr11 (x8 + r18) (x9 + 1) σ17
theorem m_X5_farIn (E : fh_E) (l : Launch) (hok : fh_ok E) (k1 : Nat) (a2 : Int32) (a3 : Int32) (σ4 : fh_S) : fh_Met E l yX5_farIn cX5_farIn 5 ((some FieldType.int)) rm_X5_farIn fh_vI [.ref (fh_ad E k1), .int a2, .int a3] σ4 (f_X5_farIn k1 a2 a3 σ4) := fh_met hok (by decide +kernel) (Nat.le_of_ble_eq_true rfl) (fun M _ C Hr => g_X5_farIn C Hr k1 a2 a3 σ4)
def f_X5_kindFor_J18 (k1 : Nat) : fh_S → Option (Int32 × fh_S) := fun σ7 => fh_cb (f_X5_finding k1 ((-1000001 : Int32)) σ7) fun r9 σ8 => some (r9, σ8)
def f_X5_kindFor_J82 (x16 : Int32) (r29 : Int32) (r19 : Int32 → Int32 → Int32 → fh_S → Option (Int32 × fh_S)) (x17 : Int32) : Int32 → fh_S → Option (Int32 × fh_S) := fun x30 σ31 => fh_cb (f_J9_max_7cf53 x16 r29 σ31) fun r33 σ32 => r19 x30 r33 (x17 + 1) σ32
def f_X5_kindFor_B41 (k1 : Nat) (a2 : Int32) (r14 : Int32) (a3 : Int32) (r19 : Int32 → Int32 → Int32 → fh_S → Option (Int32 × fh_S)) : Int32 → Int32 → Int32 → fh_S → Option (Int32 × fh_S) := fun x15 x16 x17 σ18 => if ((6 : Int32)) < x17 then (fh_gr 5 k1 0).bind fun k20 => fh_cb (f_X5_at a2 ((0 : Int32)) σ18) fun r22 σ21 => (fh_st σ21 k20 r22 r14).bind fun σ23 => some (x15, σ23) else (fh_gr 5 k1 0).bind fun k24 => fh_cb (f_X5_at a2 ((0 : Int32)) σ18) fun r26 σ25 => (fh_st σ25 k24 r26 x17).bind fun σ27 => fh_cb (f_X5_farIn k1 a2 a3 σ27) fun r29 σ28 => fh_jn (f_X5_kindFor_J82 x16 r29 r19 x17) (fun j34 => if r29 ≤ x16 then j34 x15 σ28 else j34 x17 σ28)
def f_X5_kindFor (k1 : Nat) (a2 : Int32) (a3 : Int32) (σ4 : fh_S) : Option (Int32 × fh_S) := fh_ob 5 k1 (fh_cb (f_X5_isDial k1 a2 σ4) fun r6 σ5 => fh_jn (f_X5_kindFor_J18 k1) (fun j10 => if r6 = 0 then j10 σ5 else fh_cb (f_X5_within a3 ((1 : Int32)) ((100 : Int32)) σ5) fun r12 σ11 => if r12 = 0 then j10 σ11 else fh_cb (f_X5_dialIs k1 a2 ((0 : Int32)) σ11) fun r14 σ13 => fh_fx (ρ := Int32 → Int32 → Int32 → fh_S → Option (Int32 × fh_S)) (fun _ _ _ _ => none) (f_X5_kindFor_B41 k1 a2 r14 a3) fh_fu ((0 : Int32)) ((-1 : Int32)) ((0 : Int32)) σ13))
abbrev rm_X5_kindFor : Room := { frames := 7, cells := 0, slots := 0, locals := 156 }
theorem pd_X5_kindFor : yX5_kindFor.cls ≠ "java/lang/invoke/MethodHandle" ∧ yX5_kindFor.cls ≠ "java/lang/invoke/VarHandle" ∧ (parseMethodDescriptor yX5_kindFor.desc).map (fun d => d.parameters.length) = some 2 := by decide +kernel
theorem dX5_kindFor_0 : decode cX5_kindFor 0 = .ok (.aload_n 0, 1) := by decide +kernel
theorem dX5_kindFor_1 : decode cX5_kindFor 1 = .ok (.iload_n 1, 1) := by decide +kernel
theorem dX5_kindFor_2 : decode cX5_kindFor 2 = .ok (.invokevirtual 112, 3) := by decide +kernel
theorem dX5_kindFor_5 : decode cX5_kindFor 5 = .ok (.ifCond .eq 13, 3) := by decide +kernel
theorem dX5_kindFor_8 : decode cX5_kindFor 8 = .ok (.iload_n 2, 1) := by decide +kernel
theorem dX5_kindFor_9 : decode cX5_kindFor 9 = .ok (.iconst 1, 1) := by decide +kernel
theorem dX5_kindFor_10 : decode cX5_kindFor 10 = .ok (.bipush 100, 2) := by decide +kernel
theorem dX5_kindFor_12 : decode cX5_kindFor 12 = .ok (.invokestatic 73, 3) := by decide +kernel
theorem dX5_kindFor_15 : decode cX5_kindFor 15 = .ok (.ifCond .ne 10, 3) := by decide +kernel
theorem dX5_kindFor_18 : decode cX5_kindFor 18 = .ok (.aload_n 0, 1) := by decide +kernel
theorem dX5_kindFor_19 : decode cX5_kindFor 19 = .ok (.ldc 63, 2) := by decide +kernel
theorem dX5_kindFor_21 : decode cX5_kindFor 21 = .ok (.invokevirtual 69, 3) := by decide +kernel
theorem dX5_kindFor_24 : decode cX5_kindFor 24 = .ok (.ireturn, 1) := by decide +kernel
theorem dX5_kindFor_25 : decode cX5_kindFor 25 = .ok (.aload_n 0, 1) := by decide +kernel
theorem dX5_kindFor_26 : decode cX5_kindFor 26 = .ok (.iload_n 1, 1) := by decide +kernel
theorem dX5_kindFor_27 : decode cX5_kindFor 27 = .ok (.iconst 0, 1) := by decide +kernel
theorem dX5_kindFor_28 : decode cX5_kindFor 28 = .ok (.invokevirtual 81, 3) := by decide +kernel
theorem dX5_kindFor_31 : decode cX5_kindFor 31 = .ok (.istore_n 3, 1) := by decide +kernel
theorem dX5_kindFor_32 : decode cX5_kindFor 32 = .ok (.iconst 0, 1) := by decide +kernel
theorem dX5_kindFor_33 : decode cX5_kindFor 33 = .ok (.istore 4, 2) := by decide +kernel
theorem dX5_kindFor_35 : decode cX5_kindFor 35 = .ok (.iconst (-1), 1) := by decide +kernel
theorem dX5_kindFor_36 : decode cX5_kindFor 36 = .ok (.istore 5, 2) := by decide +kernel
theorem dX5_kindFor_38 : decode cX5_kindFor 38 = .ok (.iconst 0, 1) := by decide +kernel
theorem dX5_kindFor_39 : decode cX5_kindFor 39 = .ok (.istore 6, 2) := by decide +kernel
theorem dX5_kindFor_41 : decode cX5_kindFor 41 = .ok (.iload 6, 2) := by decide +kernel
theorem dX5_kindFor_43 : decode cX5_kindFor 43 = .ok (.bipush 6, 2) := by decide +kernel
theorem dX5_kindFor_45 : decode cX5_kindFor 45 = .ok (.if_icmp .gt 54, 3) := by decide +kernel
theorem dX5_kindFor_48 : decode cX5_kindFor 48 = .ok (.aload_n 0, 1) := by decide +kernel
theorem dX5_kindFor_49 : decode cX5_kindFor 49 = .ok (.getfield 9, 3) := by decide +kernel
theorem dX5_kindFor_52 : decode cX5_kindFor 52 = .ok (.iload_n 1, 1) := by decide +kernel
theorem dX5_kindFor_53 : decode cX5_kindFor 53 = .ok (.iconst 0, 1) := by decide +kernel
theorem dX5_kindFor_54 : decode cX5_kindFor 54 = .ok (.invokestatic 77, 3) := by decide +kernel
theorem dX5_kindFor_57 : decode cX5_kindFor 57 = .ok (.iload 6, 2) := by decide +kernel
theorem dX5_kindFor_59 : decode cX5_kindFor 59 = .ok (.iastore, 1) := by decide +kernel
theorem dX5_kindFor_60 : decode cX5_kindFor 60 = .ok (.aload_n 0, 1) := by decide +kernel
theorem dX5_kindFor_61 : decode cX5_kindFor 61 = .ok (.iload_n 1, 1) := by decide +kernel
theorem dX5_kindFor_62 : decode cX5_kindFor 62 = .ok (.iload_n 2, 1) := by decide +kernel
theorem dX5_kindFor_63 : decode cX5_kindFor 63 = .ok (.invokevirtual 197, 3) := by decide +kernel
theorem dX5_kindFor_66 : decode cX5_kindFor 66 = .ok (.istore 7, 2) := by decide +kernel
theorem dX5_kindFor_68 : decode cX5_kindFor 68 = .ok (.iload 7, 2) := by decide +kernel
theorem dX5_kindFor_70 : decode cX5_kindFor 70 = .ok (.iload 5, 2) := by decide +kernel
theorem dX5_kindFor_72 : decode cX5_kindFor 72 = .ok (.if_icmp .le 8, 3) := by decide +kernel
theorem dX5_kindFor_75 : decode cX5_kindFor 75 = .ok (.iload 6, 2) := by decide +kernel
theorem dX5_kindFor_77 : decode cX5_kindFor 77 = .ok (.goto 5, 3) := by decide +kernel
theorem dX5_kindFor_80 : decode cX5_kindFor 80 = .ok (.iload 4, 2) := by decide +kernel
theorem dX5_kindFor_82 : decode cX5_kindFor 82 = .ok (.istore 4, 2) := by decide +kernel
theorem dX5_kindFor_84 : decode cX5_kindFor 84 = .ok (.iload 5, 2) := by decide +kernel
theorem dX5_kindFor_86 : decode cX5_kindFor 86 = .ok (.iload 7, 2) := by decide +kernel
theorem dX5_kindFor_88 : decode cX5_kindFor 88 = .ok (.invokestatic 104, 3) := by decide +kernel
theorem dX5_kindFor_91 : decode cX5_kindFor 91 = .ok (.istore 5, 2) := by decide +kernel
theorem dX5_kindFor_93 : decode cX5_kindFor 93 = .ok (.iinc 6 1, 3) := by decide +kernel
theorem dX5_kindFor_96 : decode cX5_kindFor 96 = .ok (.goto (-55), 3) := by decide +kernel
theorem dX5_kindFor_99 : decode cX5_kindFor 99 = .ok (.aload_n 0, 1) := by decide +kernel
theorem dX5_kindFor_100 : decode cX5_kindFor 100 = .ok (.getfield 9, 3) := by decide +kernel
theorem dX5_kindFor_103 : decode cX5_kindFor 103 = .ok (.iload_n 1, 1) := by decide +kernel
theorem dX5_kindFor_104 : decode cX5_kindFor 104 = .ok (.iconst 0, 1) := by decide +kernel
theorem dX5_kindFor_105 : decode cX5_kindFor 105 = .ok (.invokestatic 77, 3) := by decide +kernel
theorem dX5_kindFor_108 : decode cX5_kindFor 108 = .ok (.iload_n 3, 1) := by decide +kernel
theorem dX5_kindFor_109 : decode cX5_kindFor 109 = .ok (.iastore, 1) := by decide +kernel
theorem dX5_kindFor_110 : decode cX5_kindFor 110 = .ok (.iload 4, 2) := by decide +kernel
theorem dX5_kindFor_112 : decode cX5_kindFor 112 = .ok (.ireturn, 1) := by decide +kernel
set_option maxHeartbeats 4000000 in
set_option maxRecDepth 100000 in
theorem g_X5_kindFor {E : fh_E} {M : fh_M} (C : fh_Cx E M cX5_kindFor 8 RX5 ((some FieldType.int)) rm_X5_kindFor) (Hr : fh_Rt E M) (k1 : Nat) (a2 : Int32) (a3 : Int32) (σ4 : fh_S) : fh_Go E M 8 fh_vI 0 [(0, .ref (fh_ad E k1)), (1, .int a2), (2, .int a3)] [] σ4 (f_X5_kindFor k1 a2 a3 σ4) := by
  have hok := fh_cok C
  refine go_ob ?_
  refine go_aload_n C 0 rfl rfl dX5_kindFor_0 ?_
  refine go_iload_n C 1 rfl rfl dX5_kindFor_1 ?_
  refine go_callVI C (st := []) [.int a2] (m_X5_isDial E _ hok k1 a2 σ4) (fun _ h => fh_ob_ok h) rfl rfl ⟨q_837, q_839, qs_21, q_6, q_840⟩ pd_X5_isDial rfl ⟨⟨Nat.le_of_ble_eq_true rfl, Nat.le_of_ble_eq_true rfl⟩, rfl, rfl⟩ (Nat.le_of_ble_eq_true rfl) dX5_kindFor_2 (fun r6 σ5 => ?_)
  refine go_jn (fun (j10 : fh_S → Option (Int32 × fh_S)) => ∀ (σ7 : fh_S), fh_Go E M 8 fh_vI 18 [(0, .ref (fh_ad E k1))] [] σ7 (j10 σ7)) ?_ (fun j10 hj10 => ?_)
  · intro σ7
    refine go_aload_n C 0 rfl rfl dX5_kindFor_18 ?_
    refine go_ldc C q_820 dX5_kindFor_19 ?_
    refine go_callVI C (st := []) [.int ((-1000001 : Int32))] (m_X5_finding E _ hok k1 ((-1000001 : Int32)) σ7) (fun _ h => fh_ob_ok h) rfl rfl ⟨q_821, q_823, qs_19, q_6, q_824⟩ pd_X5_finding rfl ⟨⟨Nat.le_of_ble_eq_true rfl, Nat.le_of_ble_eq_true rfl⟩, rfl, rfl⟩ (Nat.le_of_ble_eq_true rfl) dX5_kindFor_21 (fun r9 σ8 => ?_)
    exact go_iret C Hr rfl dX5_kindFor_24
  refine go_if_eq (tgt := 18) C dX5_kindFor_5 rfl (fun _ => ?_) (fun _ => ?_)
  · refine go_lv [0] (lv' := [(0, .ref (fh_ad E k1))]) rfl ?_
    exact hj10 σ5
  · refine go_iload_n C 2 rfl rfl dX5_kindFor_8 ?_
    refine go_iconst C (1 : Int32) dX5_kindFor_9 rfl ?_
    refine go_bipush C (100 : Int32) dX5_kindFor_10 rfl ?_
    refine go_callSI C (st := []) [.int a3, .int ((1 : Int32)), .int ((100 : Int32))] (m_X5_within E _ hok a3 ((1 : Int32)) ((100 : Int32)) σ5) rfl ⟨q_817, q_818, q_6, q_819⟩ pd_X5_within rfl ⟨⟨Nat.le_of_ble_eq_true rfl, Nat.le_of_ble_eq_true rfl⟩, rfl, rfl⟩ (Nat.le_of_ble_eq_true rfl) dX5_kindFor_12 (fun r12 σ11 => ?_)
    refine go_if_ne (tgt := 25) C dX5_kindFor_15 rfl (fun _ => ?_) (fun _ => ?_)
    · refine go_aload_n C 0 rfl rfl dX5_kindFor_25 ?_
      refine go_iload_n C 1 rfl rfl dX5_kindFor_26 ?_
      refine go_iconst C (0 : Int32) dX5_kindFor_27 rfl ?_
      refine go_callVI C (st := []) [.int a2, .int ((0 : Int32))] (m_X5_dialIs E _ hok k1 a2 ((0 : Int32)) σ11) (fun _ h => fh_ob_ok h) rfl rfl ⟨q_849, q_851, qs_24, q_6, q_852⟩ pd_X5_dialIs rfl ⟨⟨Nat.le_of_ble_eq_true rfl, Nat.le_of_ble_eq_true rfl⟩, rfl, rfl⟩ (Nat.le_of_ble_eq_true rfl) dX5_kindFor_28 (fun r14 σ13 => ?_)
      refine go_istore_n C [(3, .int r14), (0, .ref (fh_ad E k1)), (1, .int a2), (2, .int a3)] rfl rfl (by decide) dX5_kindFor_31 ?_
      refine go_iconst C (0 : Int32) dX5_kindFor_32 rfl ?_
      refine go_istore C [(4, .int ((0 : Int32))), (3, .int r14), (0, .ref (fh_ad E k1)), (1, .int a2), (2, .int a3)] rfl (by decide) dX5_kindFor_33 ?_
      refine go_iconst C (-1 : Int32) dX5_kindFor_35 rfl ?_
      refine go_istore C [(5, .int ((-1 : Int32))), (4, .int ((0 : Int32))), (3, .int r14), (0, .ref (fh_ad E k1)), (1, .int a2), (2, .int a3)] rfl (by decide) dX5_kindFor_36 ?_
      refine go_iconst C (0 : Int32) dX5_kindFor_38 rfl ?_
      refine go_istore C [(6, .int ((0 : Int32))), (5, .int ((-1 : Int32))), (4, .int ((0 : Int32))), (3, .int r14), (0, .ref (fh_ad E k1)), (1, .int a2), (2, .int a3)] rfl (by decide) dX5_kindFor_39 ?_
      refine go_lv [4, 5, 6, 3, 2, 1, 0] (lv' := [(0, .ref (fh_ad E k1)), (1, .int a2), (2, .int a3), (3, .int r14), (4, .int ((0 : Int32))), (5, .int ((-1 : Int32))), (6, .int ((0 : Int32)))]) rfl ?_
      refine go_fx (fun (r19 : Int32 → Int32 → Int32 → fh_S → Option (Int32 × fh_S)) => ∀ (x15 : Int32) (x16 : Int32) (x17 : Int32) (σ18 : fh_S), fh_Go E M 8 fh_vI 41 [(0, .ref (fh_ad E k1)), (1, .int a2), (2, .int a3), (3, .int r14), (4, .int x15), (5, .int x16), (6, .int x17)] [] σ18 (r19 x15 x16 x17 σ18)) ?_ ?_ fh_fu ((0 : Int32)) ((-1 : Int32)) ((0 : Int32)) σ13
      · intro x15 x16 x17 σ18
        exact go_none
      · intro r19 hr19 x15 x16 x17 σ18
        refine go_iload C 6 rfl dX5_kindFor_41 ?_
        refine go_bipush C (6 : Int32) dX5_kindFor_43 rfl ?_
        refine go_icmp_gt (tgt := 99) C dX5_kindFor_45 rfl (fun _ => ?_) (fun _ => ?_)
        · refine go_aload_n C 0 rfl rfl dX5_kindFor_99 ?_
          refine go_gr (ci := 5) (j := 0) C fh_in5 rfl (by decide) rfl q_746 dX5_kindFor_100 (fun k20 => ?_)
          refine go_iload_n C 1 rfl rfl dX5_kindFor_103 ?_
          refine go_iconst C (0 : Int32) dX5_kindFor_104 rfl ?_
          refine go_callSI C (st := [.ref (fh_ad E k20)]) [.int a2, .int ((0 : Int32))] (m_X5_at E _ hok a2 ((0 : Int32)) σ18) rfl ⟨q_830, q_831, q_6, q_832⟩ pd_X5_at rfl ⟨⟨Nat.le_of_ble_eq_true rfl, Nat.le_of_ble_eq_true rfl⟩, rfl, rfl⟩ (Nat.le_of_ble_eq_true rfl) dX5_kindFor_105 (fun r22 σ21 => ?_)
          refine go_iload_n C 3 rfl rfl dX5_kindFor_108 ?_
          refine go_iast C dX5_kindFor_109 (fun σ23 => ?_)
          refine go_iload C 4 rfl dX5_kindFor_110 ?_
          exact go_iret C Hr rfl dX5_kindFor_112
        · refine go_aload_n C 0 rfl rfl dX5_kindFor_48 ?_
          refine go_gr (ci := 5) (j := 0) C fh_in5 rfl (by decide) rfl q_746 dX5_kindFor_49 (fun k24 => ?_)
          refine go_iload_n C 1 rfl rfl dX5_kindFor_52 ?_
          refine go_iconst C (0 : Int32) dX5_kindFor_53 rfl ?_
          refine go_callSI C (st := [.ref (fh_ad E k24)]) [.int a2, .int ((0 : Int32))] (m_X5_at E _ hok a2 ((0 : Int32)) σ18) rfl ⟨q_830, q_831, q_6, q_832⟩ pd_X5_at rfl ⟨⟨Nat.le_of_ble_eq_true rfl, Nat.le_of_ble_eq_true rfl⟩, rfl, rfl⟩ (Nat.le_of_ble_eq_true rfl) dX5_kindFor_54 (fun r26 σ25 => ?_)
          refine go_iload C 6 rfl dX5_kindFor_57 ?_
          refine go_iast C dX5_kindFor_59 (fun σ27 => ?_)
          refine go_aload_n C 0 rfl rfl dX5_kindFor_60 ?_
          refine go_iload_n C 1 rfl rfl dX5_kindFor_61 ?_
          refine go_iload_n C 2 rfl rfl dX5_kindFor_62 ?_
          refine go_callVI C (st := []) [.int a2, .int a3] (m_X5_farIn E _ hok k1 a2 a3 σ27) (fun _ h => fh_ob_ok h) rfl rfl ⟨q_1028, q_1030, qs_45, q_6, q_1031⟩ pd_X5_farIn rfl ⟨⟨Nat.le_of_ble_eq_true rfl, Nat.le_of_ble_eq_true rfl⟩, rfl, rfl⟩ (Nat.le_of_ble_eq_true rfl) dX5_kindFor_63 (fun r29 σ28 => ?_)
          refine go_istore C [(7, .int r29), (0, .ref (fh_ad E k1)), (1, .int a2), (2, .int a3), (3, .int r14), (4, .int x15), (5, .int x16), (6, .int x17)] rfl (by decide) dX5_kindFor_66 ?_
          refine go_iload C 0 rfl dX5_kindFor_68 ?_
          refine go_iload C 6 rfl dX5_kindFor_70 ?_
          refine go_jn (fun (j34 : Int32 → fh_S → Option (Int32 × fh_S)) => ∀ (x30 : Int32) (σ31 : fh_S), fh_Go E M 8 fh_vI 82 [(0, .ref (fh_ad E k1)), (1, .int a2), (2, .int a3), (3, .int r14), (5, .int x16), (6, .int x17), (7, .int r29)] [.int x30] σ31 (j34 x30 σ31)) ?_ (fun j34 hj34 => ?_)
          · intro x30 σ31
            refine go_istore C [(4, .int x30), (0, .ref (fh_ad E k1)), (1, .int a2), (2, .int a3), (3, .int r14), (5, .int x16), (6, .int x17), (7, .int r29)] rfl (by decide) dX5_kindFor_82 ?_
            refine go_iload C 5 rfl dX5_kindFor_84 ?_
            refine go_iload C 7 rfl dX5_kindFor_86 ?_
            refine go_callSI C (st := []) [.int x16, .int r29] (m_J9_max_7cf53 E _ hok x16 r29 σ31) rfl ⟨q_860, q_215, q_7, q_216⟩ pd_J9_max_7cf53 rfl ⟨⟨Nat.le_of_ble_eq_true rfl, Nat.le_of_ble_eq_true rfl⟩, rfl, rfl⟩ (Nat.le_of_ble_eq_true rfl) dX5_kindFor_88 (fun r33 σ32 => ?_)
            refine go_istore C [(5, .int r33), (4, .int x30), (0, .ref (fh_ad E k1)), (1, .int a2), (2, .int a3), (3, .int r14), (6, .int x17), (7, .int r29)] rfl (by decide) dX5_kindFor_91 ?_
            refine go_iinc C (x17 + 1) 6 [(6, .int (x17 + 1)), (5, .int r33), (4, .int x30), (0, .ref (fh_ad E k1)), (1, .int a2), (2, .int a3), (3, .int r14), (7, .int r29)] rfl rfl rfl (by decide) dX5_kindFor_93 ?_
            refine go_goto C 41 dX5_kindFor_96 rfl ?_
            refine go_lv [3, 4, 5, 6, 2, 1, 0] (lv' := [(0, .ref (fh_ad E k1)), (1, .int a2), (2, .int a3), (3, .int r14), (4, .int x30), (5, .int r33), (6, .int (x17 + 1))]) rfl ?_
            exact hr19 x30 r33 (x17 + 1) σ32
          refine go_icmp_le (tgt := 80) C dX5_kindFor_72 rfl (fun _ => ?_) (fun _ => ?_)
          · refine go_iload C 5 rfl dX5_kindFor_80 ?_
            refine go_lv [1, 2, 3, 4, 6, 7, 0] (lv' := [(0, .ref (fh_ad E k1)), (1, .int a2), (2, .int a3), (3, .int r14), (5, .int x16), (6, .int x17), (7, .int r29)]) rfl ?_
            exact hj34 x15 σ28
          · refine go_iload C 7 rfl dX5_kindFor_75 ?_
            refine go_goto C 82 dX5_kindFor_77 rfl ?_
            refine go_lv [1, 2, 3, 4, 6, 7, 0] (lv' := [(0, .ref (fh_ad E k1)), (1, .int a2), (2, .int a3), (3, .int r14), (5, .int x16), (6, .int x17), (7, .int r29)]) rfl ?_
            exact hj34 x17 σ28
    · refine go_lv [0] (lv' := [(0, .ref (fh_ad E k1))]) rfl ?_
      exact hj10 σ11
theorem m_X5_kindFor (E : fh_E) (l : Launch) (hok : fh_ok E) (k1 : Nat) (a2 : Int32) (a3 : Int32) (σ4 : fh_S) : fh_Met E l yX5_kindFor cX5_kindFor 8 ((some FieldType.int)) rm_X5_kindFor fh_vI [.ref (fh_ad E k1), .int a2, .int a3] σ4 (f_X5_kindFor k1 a2 a3 σ4) := fh_met hok (by decide +kernel) (Nat.le_of_ble_eq_true rfl) (fun M _ C Hr => g_X5_kindFor C Hr k1 a2 a3 σ4)
def f_X5_jogFor_J26 (k1 : Nat) : fh_S → Option (Int32 × fh_S) := fun σ8 => fh_cb (f_X5_finding k1 ((-1000001 : Int32)) σ8) fun r10 σ9 => some (r10, σ9)
def f_X5_jogFor (k1 : Nat) (a2 : Int32) (a3 : Int32) (a4 : Int32) (σ5 : fh_S) : Option (Int32 × fh_S) := fh_ob 5 k1 (fh_cb (f_X5_isDial k1 a2 σ5) fun r7 σ6 => fh_jn (f_X5_jogFor_J26 k1) (fun j11 => if r7 = 0 then j11 σ6 else fh_cb (f_X5_isHour a3 σ6) fun r13 σ12 => if r13 = 0 then j11 σ12 else fh_cb (f_X5_within a4 ((0 : Int32)) ((200 : Int32)) σ12) fun r15 σ14 => if r15 = 0 then j11 σ14 else fh_cb (f_X5_behind k1 a2 a4 ((1 : Int32)) σ14) fun r17 σ16 => fh_cb (f_X5_round (a3 - r17) σ16) fun r19 σ18 => if r19 ≤ ((360 : Int32)) then some (r19, σ18) else some (r19 - ((720 : Int32)), σ18)))
abbrev rm_X5_jogFor : Room := { frames := 8, cells := 0, slots := 0, locals := 177 }
theorem pd_X5_jogFor : yX5_jogFor.cls ≠ "java/lang/invoke/MethodHandle" ∧ yX5_jogFor.cls ≠ "java/lang/invoke/VarHandle" ∧ (parseMethodDescriptor yX5_jogFor.desc).map (fun d => d.parameters.length) = some 3 := by decide +kernel
theorem dX5_jogFor_0 : decode cX5_jogFor 0 = .ok (.aload_n 0, 1) := by decide +kernel
theorem dX5_jogFor_1 : decode cX5_jogFor 1 = .ok (.iload_n 1, 1) := by decide +kernel
theorem dX5_jogFor_2 : decode cX5_jogFor 2 = .ok (.invokevirtual 112, 3) := by decide +kernel
theorem dX5_jogFor_5 : decode cX5_jogFor 5 = .ok (.ifCond .eq 21, 3) := by decide +kernel
theorem dX5_jogFor_8 : decode cX5_jogFor 8 = .ok (.iload_n 2, 1) := by decide +kernel
theorem dX5_jogFor_9 : decode cX5_jogFor 9 = .ok (.invokestatic 118, 3) := by decide +kernel
theorem dX5_jogFor_12 : decode cX5_jogFor 12 = .ok (.ifCond .eq 14, 3) := by decide +kernel
theorem dX5_jogFor_15 : decode cX5_jogFor 15 = .ok (.iload_n 3, 1) := by decide +kernel
theorem dX5_jogFor_16 : decode cX5_jogFor 16 = .ok (.iconst 0, 1) := by decide +kernel
theorem dX5_jogFor_17 : decode cX5_jogFor 17 = .ok (.sipush 200, 3) := by decide +kernel
theorem dX5_jogFor_20 : decode cX5_jogFor 20 = .ok (.invokestatic 73, 3) := by decide +kernel
theorem dX5_jogFor_23 : decode cX5_jogFor 23 = .ok (.ifCond .ne 10, 3) := by decide +kernel
theorem dX5_jogFor_26 : decode cX5_jogFor 26 = .ok (.aload_n 0, 1) := by decide +kernel
theorem dX5_jogFor_27 : decode cX5_jogFor 27 = .ok (.ldc 63, 2) := by decide +kernel
theorem dX5_jogFor_29 : decode cX5_jogFor 29 = .ok (.invokevirtual 69, 3) := by decide +kernel
theorem dX5_jogFor_32 : decode cX5_jogFor 32 = .ok (.ireturn, 1) := by decide +kernel
theorem dX5_jogFor_33 : decode cX5_jogFor 33 = .ok (.iload_n 2, 1) := by decide +kernel
theorem dX5_jogFor_34 : decode cX5_jogFor 34 = .ok (.aload_n 0, 1) := by decide +kernel
theorem dX5_jogFor_35 : decode cX5_jogFor 35 = .ok (.iload_n 1, 1) := by decide +kernel
theorem dX5_jogFor_36 : decode cX5_jogFor 36 = .ok (.iload_n 3, 1) := by decide +kernel
theorem dX5_jogFor_37 : decode cX5_jogFor 37 = .ok (.iconst 1, 1) := by decide +kernel
theorem dX5_jogFor_38 : decode cX5_jogFor 38 = .ok (.invokevirtual 186, 3) := by decide +kernel
theorem dX5_jogFor_41 : decode cX5_jogFor 41 = .ok (.isub, 1) := by decide +kernel
theorem dX5_jogFor_42 : decode cX5_jogFor 42 = .ok (.invokestatic 128, 3) := by decide +kernel
theorem dX5_jogFor_45 : decode cX5_jogFor 45 = .ok (.istore 4, 2) := by decide +kernel
theorem dX5_jogFor_47 : decode cX5_jogFor 47 = .ok (.iload 4, 2) := by decide +kernel
theorem dX5_jogFor_49 : decode cX5_jogFor 49 = .ok (.sipush 360, 3) := by decide +kernel
theorem dX5_jogFor_52 : decode cX5_jogFor 52 = .ok (.if_icmp .le 12, 3) := by decide +kernel
theorem dX5_jogFor_55 : decode cX5_jogFor 55 = .ok (.iload 4, 2) := by decide +kernel
theorem dX5_jogFor_57 : decode cX5_jogFor 57 = .ok (.sipush 720, 3) := by decide +kernel
theorem dX5_jogFor_60 : decode cX5_jogFor 60 = .ok (.isub, 1) := by decide +kernel
theorem dX5_jogFor_61 : decode cX5_jogFor 61 = .ok (.goto 5, 3) := by decide +kernel
theorem dX5_jogFor_64 : decode cX5_jogFor 64 = .ok (.iload 4, 2) := by decide +kernel
theorem dX5_jogFor_66 : decode cX5_jogFor 66 = .ok (.ireturn, 1) := by decide +kernel
set_option maxHeartbeats 4000000 in
set_option maxRecDepth 100000 in
theorem g_X5_jogFor {E : fh_E} {M : fh_M} (C : fh_Cx E M cX5_jogFor 5 RX5 ((some FieldType.int)) rm_X5_jogFor) (Hr : fh_Rt E M) (k1 : Nat) (a2 : Int32) (a3 : Int32) (a4 : Int32) (σ5 : fh_S) : fh_Go E M 5 fh_vI 0 [(0, .ref (fh_ad E k1)), (1, .int a2), (2, .int a3), (3, .int a4)] [] σ5 (f_X5_jogFor k1 a2 a3 a4 σ5) := by
  have hok := fh_cok C
  refine go_ob ?_
  refine go_aload_n C 0 rfl rfl dX5_jogFor_0 ?_
  refine go_iload_n C 1 rfl rfl dX5_jogFor_1 ?_
  refine go_callVI C (st := []) [.int a2] (m_X5_isDial E _ hok k1 a2 σ5) (fun _ h => fh_ob_ok h) rfl rfl ⟨q_837, q_839, qs_21, q_6, q_840⟩ pd_X5_isDial rfl ⟨⟨Nat.le_of_ble_eq_true rfl, Nat.le_of_ble_eq_true rfl⟩, rfl, rfl⟩ (Nat.le_of_ble_eq_true rfl) dX5_jogFor_2 (fun r7 σ6 => ?_)
  refine go_jn (fun (j11 : fh_S → Option (Int32 × fh_S)) => ∀ (σ8 : fh_S), fh_Go E M 5 fh_vI 26 [(0, .ref (fh_ad E k1))] [] σ8 (j11 σ8)) ?_ (fun j11 hj11 => ?_)
  · intro σ8
    refine go_aload_n C 0 rfl rfl dX5_jogFor_26 ?_
    refine go_ldc C q_820 dX5_jogFor_27 ?_
    refine go_callVI C (st := []) [.int ((-1000001 : Int32))] (m_X5_finding E _ hok k1 ((-1000001 : Int32)) σ8) (fun _ h => fh_ob_ok h) rfl rfl ⟨q_821, q_823, qs_19, q_6, q_824⟩ pd_X5_finding rfl ⟨⟨Nat.le_of_ble_eq_true rfl, Nat.le_of_ble_eq_true rfl⟩, rfl, rfl⟩ (Nat.le_of_ble_eq_true rfl) dX5_jogFor_29 (fun r10 σ9 => ?_)
    exact go_iret C Hr rfl dX5_jogFor_32
  refine go_if_eq (tgt := 26) C dX5_jogFor_5 rfl (fun _ => ?_) (fun _ => ?_)
  · refine go_lv [0] (lv' := [(0, .ref (fh_ad E k1))]) rfl ?_
    exact hj11 σ6
  · refine go_iload_n C 2 rfl rfl dX5_jogFor_8 ?_
    refine go_callSI C (st := []) [.int a3] (m_X5_isHour E _ hok a3 σ6) rfl ⟨q_870, q_871, q_6, q_872⟩ pd_X5_isHour rfl ⟨⟨Nat.le_of_ble_eq_true rfl, Nat.le_of_ble_eq_true rfl⟩, rfl, rfl⟩ (Nat.le_of_ble_eq_true rfl) dX5_jogFor_9 (fun r13 σ12 => ?_)
    refine go_if_eq (tgt := 26) C dX5_jogFor_12 rfl (fun _ => ?_) (fun _ => ?_)
    · refine go_lv [0] (lv' := [(0, .ref (fh_ad E k1))]) rfl ?_
      exact hj11 σ12
    · refine go_iload_n C 3 rfl rfl dX5_jogFor_15 ?_
      refine go_iconst C (0 : Int32) dX5_jogFor_16 rfl ?_
      refine go_sipush C (200 : Int32) dX5_jogFor_17 rfl ?_
      refine go_callSI C (st := []) [.int a4, .int ((0 : Int32)), .int ((200 : Int32))] (m_X5_within E _ hok a4 ((0 : Int32)) ((200 : Int32)) σ12) rfl ⟨q_817, q_818, q_6, q_819⟩ pd_X5_within rfl ⟨⟨Nat.le_of_ble_eq_true rfl, Nat.le_of_ble_eq_true rfl⟩, rfl, rfl⟩ (Nat.le_of_ble_eq_true rfl) dX5_jogFor_20 (fun r15 σ14 => ?_)
      refine go_if_ne (tgt := 33) C dX5_jogFor_23 rfl (fun _ => ?_) (fun _ => ?_)
      · refine go_iload_n C 2 rfl rfl dX5_jogFor_33 ?_
        refine go_aload_n C 0 rfl rfl dX5_jogFor_34 ?_
        refine go_iload_n C 1 rfl rfl dX5_jogFor_35 ?_
        refine go_iload_n C 3 rfl rfl dX5_jogFor_36 ?_
        refine go_iconst C (1 : Int32) dX5_jogFor_37 rfl ?_
        refine go_callVI C (st := [.int a3]) [.int a2, .int a4, .int ((1 : Int32))] (m_X5_behind E _ hok k1 a2 a4 ((1 : Int32)) σ14) (fun _ h => fh_ob_ok h) rfl rfl ⟨q_989, q_991, qs_42, q_6, q_992⟩ pd_X5_behind rfl ⟨⟨Nat.le_of_ble_eq_true rfl, Nat.le_of_ble_eq_true rfl⟩, rfl, rfl⟩ (Nat.le_of_ble_eq_true rfl) dX5_jogFor_38 (fun r17 σ16 => ?_)
        refine go_isub C dX5_jogFor_41 ?_
        refine go_callSI C (st := []) [.int (a3 - r17)] (m_X5_round E _ hok (a3 - r17) σ16) rfl ⟨q_881, q_882, q_6, q_883⟩ pd_X5_round rfl ⟨⟨Nat.le_of_ble_eq_true rfl, Nat.le_of_ble_eq_true rfl⟩, rfl, rfl⟩ (Nat.le_of_ble_eq_true rfl) dX5_jogFor_42 (fun r19 σ18 => ?_)
        refine go_istore C [(4, .int r19), (0, .ref (fh_ad E k1)), (1, .int a2), (2, .int a3), (3, .int a4)] rfl (by decide) dX5_jogFor_45 ?_
        refine go_iload C 0 rfl dX5_jogFor_47 ?_
        refine go_sipush C (360 : Int32) dX5_jogFor_49 rfl ?_
        refine go_icmp_le (tgt := 64) C dX5_jogFor_52 rfl (fun _ => ?_) (fun _ => ?_)
        · refine go_iload C 0 rfl dX5_jogFor_64 ?_
          exact go_iret C Hr rfl dX5_jogFor_66
        · refine go_iload C 0 rfl dX5_jogFor_55 ?_
          refine go_sipush C (720 : Int32) dX5_jogFor_57 rfl ?_
          refine go_isub C dX5_jogFor_60 ?_
          refine go_goto C 66 dX5_jogFor_61 rfl ?_
          exact go_iret C Hr rfl dX5_jogFor_66
      · refine go_lv [0] (lv' := [(0, .ref (fh_ad E k1))]) rfl ?_
        exact hj11 σ14
theorem m_X5_jogFor (E : fh_E) (l : Launch) (hok : fh_ok E) (k1 : Nat) (a2 : Int32) (a3 : Int32) (a4 : Int32) (σ5 : fh_S) : fh_Met E l yX5_jogFor cX5_jogFor 5 ((some FieldType.int)) rm_X5_jogFor fh_vI [.ref (fh_ad E k1), .int a2, .int a3, .int a4] σ5 (f_X5_jogFor k1 a2 a3 a4 σ5) := fh_met hok (by decide +kernel) (Nat.le_of_ble_eq_true rfl) (fun M _ C Hr => g_X5_jogFor C Hr k1 a2 a3 a4 σ5)
def f_X5_mostShown_J62 (r6 : Int32 → Int32 → fh_S → Option (Int32 × fh_S)) (x4 : Int32) : Int32 → fh_S → Option (Int32 × fh_S) := fun x13 σ14 => r6 x13 (x4 + 1) σ14
def f_X5_mostShown_J57 (j15 : Int32 → fh_S → Option (Int32 × fh_S)) (r10 : Int32) : fh_S → Option (Int32 × fh_S) := fun σ16 => j15 r10 σ16
def f_X5_mostShown_J61 (j15 : Int32 → fh_S → Option (Int32 × fh_S)) (x3 : Int32) : fh_S → Option (Int32 × fh_S) := fun σ18 => j15 x3 σ18
def f_X5_mostShown_J40 (r6 : Int32 → Int32 → fh_S → Option (Int32 × fh_S)) (x4 : Int32) (r10 : Int32) (x3 : Int32) : Int32 → fh_S → Option (Int32 × fh_S) := fun x11 σ12 => fh_jn (f_X5_mostShown_J62 r6 x4) (fun j15 => fh_jn (f_X5_mostShown_J57 j15 r10) (fun j17 => if 0 < x11 then j17 σ12 else fh_jn (f_X5_mostShown_J61 j15 x3) (fun j19 => if x11 = 0 then if x3 ≤ r10 then j19 σ12 else j17 σ12 else j19 σ12)))
def f_X5_mostShown_B4 (k1 : Nat) (r6 : Int32 → Int32 → fh_S → Option (Int32 × fh_S)) : Int32 → Int32 → fh_S → Option (Int32 × fh_S) := fun x3 x4 σ5 => (fh_gr 5 k1 0).bind fun k7 => (fh_ld σ5 k7 ((1 : Int32))).bind fun v8 => if v8 ≤ x4 then some (x3, σ5) else fh_cb (f_X5_dialIs k1 x4 ((1 : Int32)) σ5) fun r10 σ9 => fh_jn (f_X5_mostShown_J40 r6 x4 r10 x3) (fun j20 => if 0 ≤ x3 then fh_cb (f_X5_manyShow k1 r10 σ9) fun r22 σ21 => fh_cb (f_X5_manyShow k1 x3 σ21) fun r24 σ23 => j20 (r22 - r24) σ23 else j20 ((1 : Int32)) σ9)
def f_X5_mostShown (k1 : Nat) (σ2 : fh_S) : Option (Int32 × fh_S) := fh_ob 5 k1 (fh_fx (ρ := Int32 → Int32 → fh_S → Option (Int32 × fh_S)) (fun _ _ _ => none) (f_X5_mostShown_B4 k1) fh_fu ((-1 : Int32)) ((0 : Int32)) σ2)
abbrev rm_X5_mostShown : Room := { frames := 4, cells := 0, slots := 0, locals := 87 }
theorem pd_X5_mostShown : yX5_mostShown.cls ≠ "java/lang/invoke/MethodHandle" ∧ yX5_mostShown.cls ≠ "java/lang/invoke/VarHandle" ∧ (parseMethodDescriptor yX5_mostShown.desc).map (fun d => d.parameters.length) = some 0 := by decide +kernel
theorem dX5_mostShown_0 : decode cX5_mostShown 0 = .ok (.iconst (-1), 1) := by decide +kernel
theorem dX5_mostShown_1 : decode cX5_mostShown 1 = .ok (.istore_n 1, 1) := by decide +kernel
theorem dX5_mostShown_2 : decode cX5_mostShown 2 = .ok (.iconst 0, 1) := by decide +kernel
theorem dX5_mostShown_3 : decode cX5_mostShown 3 = .ok (.istore_n 2, 1) := by decide +kernel
theorem dX5_mostShown_4 : decode cX5_mostShown 4 = .ok (.iload_n 2, 1) := by decide +kernel
theorem dX5_mostShown_5 : decode cX5_mostShown 5 = .ok (.aload_n 0, 1) := by decide +kernel
theorem dX5_mostShown_6 : decode cX5_mostShown 6 = .ok (.getfield 9, 3) := by decide +kernel
theorem dX5_mostShown_9 : decode cX5_mostShown 9 = .ok (.iconst 1, 1) := by decide +kernel
theorem dX5_mostShown_10 : decode cX5_mostShown 10 = .ok (.iaload, 1) := by decide +kernel
theorem dX5_mostShown_11 : decode cX5_mostShown 11 = .ok (.if_icmp .ge 58, 3) := by decide +kernel
theorem dX5_mostShown_14 : decode cX5_mostShown 14 = .ok (.aload_n 0, 1) := by decide +kernel
theorem dX5_mostShown_15 : decode cX5_mostShown 15 = .ok (.iload_n 2, 1) := by decide +kernel
theorem dX5_mostShown_16 : decode cX5_mostShown 16 = .ok (.iconst 1, 1) := by decide +kernel
theorem dX5_mostShown_17 : decode cX5_mostShown 17 = .ok (.invokevirtual 81, 3) := by decide +kernel
theorem dX5_mostShown_20 : decode cX5_mostShown 20 = .ok (.istore_n 3, 1) := by decide +kernel
theorem dX5_mostShown_21 : decode cX5_mostShown 21 = .ok (.iload_n 1, 1) := by decide +kernel
theorem dX5_mostShown_22 : decode cX5_mostShown 22 = .ok (.ifCond .ge 7, 3) := by decide +kernel
theorem dX5_mostShown_25 : decode cX5_mostShown 25 = .ok (.iconst 1, 1) := by decide +kernel
theorem dX5_mostShown_26 : decode cX5_mostShown 26 = .ok (.goto 14, 3) := by decide +kernel
theorem dX5_mostShown_29 : decode cX5_mostShown 29 = .ok (.aload_n 0, 1) := by decide +kernel
theorem dX5_mostShown_30 : decode cX5_mostShown 30 = .ok (.iload_n 3, 1) := by decide +kernel
theorem dX5_mostShown_31 : decode cX5_mostShown 31 = .ok (.invokevirtual 162, 3) := by decide +kernel
theorem dX5_mostShown_34 : decode cX5_mostShown 34 = .ok (.aload_n 0, 1) := by decide +kernel
theorem dX5_mostShown_35 : decode cX5_mostShown 35 = .ok (.iload_n 1, 1) := by decide +kernel
theorem dX5_mostShown_36 : decode cX5_mostShown 36 = .ok (.invokevirtual 162, 3) := by decide +kernel
theorem dX5_mostShown_39 : decode cX5_mostShown 39 = .ok (.isub, 1) := by decide +kernel
theorem dX5_mostShown_40 : decode cX5_mostShown 40 = .ok (.istore 4, 2) := by decide +kernel
theorem dX5_mostShown_42 : decode cX5_mostShown 42 = .ok (.iload 4, 2) := by decide +kernel
theorem dX5_mostShown_44 : decode cX5_mostShown 44 = .ok (.ifCond .gt 13, 3) := by decide +kernel
theorem dX5_mostShown_47 : decode cX5_mostShown 47 = .ok (.iload 4, 2) := by decide +kernel
theorem dX5_mostShown_49 : decode cX5_mostShown 49 = .ok (.ifCond .ne 12, 3) := by decide +kernel
theorem dX5_mostShown_52 : decode cX5_mostShown 52 = .ok (.iload_n 3, 1) := by decide +kernel
theorem dX5_mostShown_53 : decode cX5_mostShown 53 = .ok (.iload_n 1, 1) := by decide +kernel
theorem dX5_mostShown_54 : decode cX5_mostShown 54 = .ok (.if_icmp .ge 7, 3) := by decide +kernel
theorem dX5_mostShown_57 : decode cX5_mostShown 57 = .ok (.iload_n 3, 1) := by decide +kernel
theorem dX5_mostShown_58 : decode cX5_mostShown 58 = .ok (.goto 4, 3) := by decide +kernel
theorem dX5_mostShown_61 : decode cX5_mostShown 61 = .ok (.iload_n 1, 1) := by decide +kernel
theorem dX5_mostShown_62 : decode cX5_mostShown 62 = .ok (.istore_n 1, 1) := by decide +kernel
theorem dX5_mostShown_63 : decode cX5_mostShown 63 = .ok (.iinc 2 1, 3) := by decide +kernel
theorem dX5_mostShown_66 : decode cX5_mostShown 66 = .ok (.goto (-62), 3) := by decide +kernel
theorem dX5_mostShown_69 : decode cX5_mostShown 69 = .ok (.iload_n 1, 1) := by decide +kernel
theorem dX5_mostShown_70 : decode cX5_mostShown 70 = .ok (.ireturn, 1) := by decide +kernel
set_option maxHeartbeats 4000000 in
set_option maxRecDepth 100000 in
theorem g_X5_mostShown {E : fh_E} {M : fh_M} (C : fh_Cx E M cX5_mostShown 5 RX5 ((some FieldType.int)) rm_X5_mostShown) (Hr : fh_Rt E M) (k1 : Nat) (σ2 : fh_S) : fh_Go E M 5 fh_vI 0 [(0, .ref (fh_ad E k1))] [] σ2 (f_X5_mostShown k1 σ2) := by
  have hok := fh_cok C
  refine go_ob ?_
  refine go_iconst C (-1 : Int32) dX5_mostShown_0 rfl ?_
  refine go_istore_n C [(1, .int ((-1 : Int32))), (0, .ref (fh_ad E k1))] rfl rfl (by decide) dX5_mostShown_1 ?_
  refine go_iconst C (0 : Int32) dX5_mostShown_2 rfl ?_
  refine go_istore_n C [(2, .int ((0 : Int32))), (1, .int ((-1 : Int32))), (0, .ref (fh_ad E k1))] rfl rfl (by decide) dX5_mostShown_3 ?_
  refine go_lv [2, 1, 0] (lv' := [(0, .ref (fh_ad E k1)), (1, .int ((-1 : Int32))), (2, .int ((0 : Int32)))]) rfl ?_
  refine go_fx (fun (r6 : Int32 → Int32 → fh_S → Option (Int32 × fh_S)) => ∀ (x3 : Int32) (x4 : Int32) (σ5 : fh_S), fh_Go E M 5 fh_vI 4 [(0, .ref (fh_ad E k1)), (1, .int x3), (2, .int x4)] [] σ5 (r6 x3 x4 σ5)) ?_ ?_ fh_fu ((-1 : Int32)) ((0 : Int32)) σ2
  · intro x3 x4 σ5
    exact go_none
  · intro r6 hr6 x3 x4 σ5
    refine go_iload_n C 2 rfl rfl dX5_mostShown_4 ?_
    refine go_aload_n C 0 rfl rfl dX5_mostShown_5 ?_
    refine go_gr (ci := 5) (j := 0) C fh_in5 rfl (by decide) rfl q_746 dX5_mostShown_6 (fun k7 => ?_)
    refine go_iconst C (1 : Int32) dX5_mostShown_9 rfl ?_
    refine go_iald C dX5_mostShown_10 (fun v8 => ?_)
    refine go_icmp_ge (tgt := 69) C dX5_mostShown_11 rfl (fun _ => ?_) (fun _ => ?_)
    · refine go_iload_n C 1 rfl rfl dX5_mostShown_69 ?_
      exact go_iret C Hr rfl dX5_mostShown_70
    · refine go_aload_n C 0 rfl rfl dX5_mostShown_14 ?_
      refine go_iload_n C 2 rfl rfl dX5_mostShown_15 ?_
      refine go_iconst C (1 : Int32) dX5_mostShown_16 rfl ?_
      refine go_callVI C (st := []) [.int x4, .int ((1 : Int32))] (m_X5_dialIs E _ hok k1 x4 ((1 : Int32)) σ5) (fun _ h => fh_ob_ok h) rfl rfl ⟨q_849, q_851, qs_24, q_6, q_852⟩ pd_X5_dialIs rfl ⟨⟨Nat.le_of_ble_eq_true rfl, Nat.le_of_ble_eq_true rfl⟩, rfl, rfl⟩ (Nat.le_of_ble_eq_true rfl) dX5_mostShown_17 (fun r10 σ9 => ?_)
      refine go_istore_n C [(3, .int r10), (0, .ref (fh_ad E k1)), (1, .int x3), (2, .int x4)] rfl rfl (by decide) dX5_mostShown_20 ?_
      refine go_iload_n C 2 rfl rfl dX5_mostShown_21 ?_
      refine go_jn (fun (j20 : Int32 → fh_S → Option (Int32 × fh_S)) => ∀ (x11 : Int32) (σ12 : fh_S), fh_Go E M 5 fh_vI 40 [(0, .ref (fh_ad E k1)), (1, .int x3), (2, .int x4), (3, .int r10)] [.int x11] σ12 (j20 x11 σ12)) ?_ (fun j20 hj20 => ?_)
      · intro x11 σ12
        refine go_istore C [(4, .int x11), (0, .ref (fh_ad E k1)), (1, .int x3), (2, .int x4), (3, .int r10)] rfl (by decide) dX5_mostShown_40 ?_
        refine go_iload C 0 rfl dX5_mostShown_42 ?_
        refine go_jn (fun (j15 : Int32 → fh_S → Option (Int32 × fh_S)) => ∀ (x13 : Int32) (σ14 : fh_S), fh_Go E M 5 fh_vI 62 [(0, .ref (fh_ad E k1)), (2, .int x4)] [.int x13] σ14 (j15 x13 σ14)) ?_ (fun j15 hj15 => ?_)
        · intro x13 σ14
          refine go_istore_n C [(1, .int x13), (0, .ref (fh_ad E k1)), (2, .int x4)] rfl rfl (by decide) dX5_mostShown_62 ?_
          refine go_iinc C (x4 + 1) 2 [(2, .int (x4 + 1)), (1, .int x13), (0, .ref (fh_ad E k1))] rfl rfl rfl (by decide) dX5_mostShown_63 ?_
          refine go_goto C 4 dX5_mostShown_66 rfl ?_
          refine go_lv [2, 1, 0] (lv' := [(0, .ref (fh_ad E k1)), (1, .int x13), (2, .int (x4 + 1))]) rfl ?_
          exact hr6 x13 (x4 + 1) σ14
        refine go_jn (fun (j17 : fh_S → Option (Int32 × fh_S)) => ∀ (σ16 : fh_S), fh_Go E M 5 fh_vI 57 [(0, .ref (fh_ad E k1)), (2, .int x4), (3, .int r10)] [] σ16 (j17 σ16)) ?_ (fun j17 hj17 => ?_)
        · intro σ16
          refine go_iload_n C 2 rfl rfl dX5_mostShown_57 ?_
          refine go_goto C 62 dX5_mostShown_58 rfl ?_
          refine go_lv [0, 1] (lv' := [(0, .ref (fh_ad E k1)), (2, .int x4)]) rfl ?_
          exact hj15 r10 σ16
        refine go_if_gt (tgt := 57) C dX5_mostShown_44 rfl (fun _ => ?_) (fun _ => ?_)
        · refine go_lv [1, 3, 4] (lv' := [(0, .ref (fh_ad E k1)), (2, .int x4), (3, .int r10)]) rfl ?_
          exact hj17 σ12
        · refine go_iload C 0 rfl dX5_mostShown_47 ?_
          refine go_jn (fun (j19 : fh_S → Option (Int32 × fh_S)) => ∀ (σ18 : fh_S), fh_Go E M 5 fh_vI 61 [(0, .ref (fh_ad E k1)), (1, .int x3), (2, .int x4)] [] σ18 (j19 σ18)) ?_ (fun j19 hj19 => ?_)
          · intro σ18
            refine go_iload_n C 1 rfl rfl dX5_mostShown_61 ?_
            refine go_lv [0, 2] (lv' := [(0, .ref (fh_ad E k1)), (2, .int x4)]) rfl ?_
            exact hj15 x3 σ18
          refine go_if_ne (tgt := 61) C dX5_mostShown_49 rfl (fun _ => ?_) (fun _ => ?_)
          · refine go_lv [1, 2, 3] (lv' := [(0, .ref (fh_ad E k1)), (1, .int x3), (2, .int x4)]) rfl ?_
            exact hj19 σ12
          · refine go_iload_n C 4 rfl rfl dX5_mostShown_52 ?_
            refine go_iload_n C 2 rfl rfl dX5_mostShown_53 ?_
            refine go_icmp_ge (tgt := 61) C dX5_mostShown_54 rfl (fun _ => ?_) (fun _ => ?_)
            · refine go_lv [1, 2, 3] (lv' := [(0, .ref (fh_ad E k1)), (1, .int x3), (2, .int x4)]) rfl ?_
              exact hj19 σ12
            · refine go_lv [1, 3, 4] (lv' := [(0, .ref (fh_ad E k1)), (2, .int x4), (3, .int r10)]) rfl ?_
              exact hj17 σ12
      refine go_if_ge (tgt := 29) C dX5_mostShown_22 rfl (fun _ => ?_) (fun _ => ?_)
      · refine go_aload_n C 1 rfl rfl dX5_mostShown_29 ?_
        refine go_iload_n C 0 rfl rfl dX5_mostShown_30 ?_
        refine go_callVI C (st := []) [.int r10] (m_X5_manyShow E _ hok k1 r10 σ9) (fun _ h => fh_ob_ok h) rfl rfl ⟨q_926, q_928, qs_35, q_6, q_929⟩ pd_X5_manyShow rfl ⟨⟨Nat.le_of_ble_eq_true rfl, Nat.le_of_ble_eq_true rfl⟩, rfl, rfl⟩ (Nat.le_of_ble_eq_true rfl) dX5_mostShown_31 (fun r22 σ21 => ?_)
        refine go_aload_n C 1 rfl rfl dX5_mostShown_34 ?_
        refine go_iload_n C 2 rfl rfl dX5_mostShown_35 ?_
        refine go_callVI C (st := [.int r22]) [.int x3] (m_X5_manyShow E _ hok k1 x3 σ21) (fun _ h => fh_ob_ok h) rfl rfl ⟨q_926, q_928, qs_35, q_6, q_929⟩ pd_X5_manyShow rfl ⟨⟨Nat.le_of_ble_eq_true rfl, Nat.le_of_ble_eq_true rfl⟩, rfl, rfl⟩ (Nat.le_of_ble_eq_true rfl) dX5_mostShown_36 (fun r24 σ23 => ?_)
        refine go_isub C dX5_mostShown_39 ?_
        refine go_lv [1, 2, 3, 0] (lv' := [(0, .ref (fh_ad E k1)), (1, .int x3), (2, .int x4), (3, .int r10)]) rfl ?_
        exact hj20 (r22 - r24) σ23
      · refine go_iconst C (1 : Int32) dX5_mostShown_25 rfl ?_
        refine go_goto C 40 dX5_mostShown_26 rfl ?_
        refine go_lv [1, 2, 3, 0] (lv' := [(0, .ref (fh_ad E k1)), (1, .int x3), (2, .int x4), (3, .int r10)]) rfl ?_
        exact hj20 ((1 : Int32)) σ9
theorem m_X5_mostShown (E : fh_E) (l : Launch) (hok : fh_ok E) (k1 : Nat) (σ2 : fh_S) : fh_Met E l yX5_mostShown cX5_mostShown 5 ((some FieldType.int)) rm_X5_mostShown fh_vI [.ref (fh_ad E k1)] σ2 (f_X5_mostShown k1 σ2) := fh_met hok (by decide +kernel) (Nat.le_of_ble_eq_true rfl) (fun M _ C Hr => g_X5_mostShown C Hr k1 σ2)
def f_X5_most (k1 : Nat) (σ2 : fh_S) : Option (Int32 × fh_S) := fh_ob 5 k1 (fh_cb (f_X5_mostShown k1 σ2) fun r4 σ3 => fh_cb (f_X5_orNone k1 r4 σ3) fun r6 σ5 => some (r6, σ5))
abbrev rm_X5_most : Room := { frames := 5, cells := 0, slots := 0, locals := 111 }
theorem pd_X5_most : yX5_most.cls ≠ "java/lang/invoke/MethodHandle" ∧ yX5_most.cls ≠ "java/lang/invoke/VarHandle" ∧ (parseMethodDescriptor yX5_most.desc).map (fun d => d.parameters.length) = some 0 := by decide +kernel
theorem dX5_most_0 : decode cX5_most 0 = .ok (.aload_n 0, 1) := by decide +kernel
theorem dX5_most_1 : decode cX5_most 1 = .ok (.aload_n 0, 1) := by decide +kernel
theorem dX5_most_2 : decode cX5_most 2 = .ok (.invokevirtual 200, 3) := by decide +kernel
theorem dX5_most_5 : decode cX5_most 5 = .ok (.invokevirtual 180, 3) := by decide +kernel
theorem dX5_most_8 : decode cX5_most 8 = .ok (.ireturn, 1) := by decide +kernel
set_option maxHeartbeats 4000000 in
set_option maxRecDepth 100000 in
theorem g_X5_most {E : fh_E} {M : fh_M} (C : fh_Cx E M cX5_most 1 RX5 ((some FieldType.int)) rm_X5_most) (Hr : fh_Rt E M) (k1 : Nat) (σ2 : fh_S) : fh_Go E M 1 fh_vI 0 [(0, .ref (fh_ad E k1))] [] σ2 (f_X5_most k1 σ2) := by
  have hok := fh_cok C
  refine go_ob ?_
  refine go_aload_n C 0 rfl rfl dX5_most_0 ?_
  refine go_aload_n C 0 rfl rfl dX5_most_1 ?_
  refine go_callVI C (st := [.ref (fh_ad E k1)]) [] (m_X5_mostShown E _ hok k1 σ2) (fun _ h => fh_ob_ok h) rfl rfl ⟨q_1041, q_1043, qs_46, q_6, q_1044⟩ pd_X5_mostShown rfl ⟨⟨Nat.le_of_ble_eq_true rfl, Nat.le_of_ble_eq_true rfl⟩, rfl, rfl⟩ (Nat.le_of_ble_eq_true rfl) dX5_most_2 (fun r4 σ3 => ?_)
  refine go_callVI C (st := []) [.int r4] (m_X5_orNone E _ hok k1 r4 σ3) (fun _ h => fh_ob_ok h) rfl rfl ⟨q_980, q_982, qs_41, q_6, q_983⟩ pd_X5_orNone rfl ⟨⟨Nat.le_of_ble_eq_true rfl, Nat.le_of_ble_eq_true rfl⟩, rfl, rfl⟩ (Nat.le_of_ble_eq_true rfl) dX5_most_5 (fun r6 σ5 => ?_)
  exact go_iret C Hr rfl dX5_most_8
theorem m_X5_most (E : fh_E) (l : Launch) (hok : fh_ok E) (k1 : Nat) (σ2 : fh_S) : fh_Met E l yX5_most cX5_most 1 ((some FieldType.int)) rm_X5_most fh_vI [.ref (fh_ad E k1)] σ2 (f_X5_most k1 σ2) := fh_met hok (by decide +kernel) (Nat.le_of_ble_eq_true rfl) (fun M _ C Hr => g_X5_most C Hr k1 σ2)
def f_X5_rightBehind (k1 : Nat) (a2 : Int32) (σ3 : fh_S) : Option (Int32 × fh_S) := fh_ob 5 k1 ((fh_gr 5 k1 0).bind fun k4 => (fh_gr 5 k1 2).bind fun k5 => fh_cb (f_X5_copyRow k4 k5 σ3) fun _ σ6 => fh_cb (f_X5_ticks k1 a2 σ6) fun _ σ7 => fh_cb (f_X5_mostShown k1 σ7) fun r9 σ8 => fh_cb (f_X5_whoShow k1 r9 σ8) fun r11 σ10 => fh_cb (f_X5_putBack k1 r11 σ10) fun r13 σ12 => some (r13, σ12))
abbrev rm_X5_rightBehind : Room := { frames := 7, cells := 0, slots := 0, locals := 154 }
theorem pd_X5_rightBehind : yX5_rightBehind.cls ≠ "java/lang/invoke/MethodHandle" ∧ yX5_rightBehind.cls ≠ "java/lang/invoke/VarHandle" ∧ (parseMethodDescriptor yX5_rightBehind.desc).map (fun d => d.parameters.length) = some 1 := by decide +kernel
theorem dX5_rightBehind_0 : decode cX5_rightBehind 0 = .ok (.aload_n 0, 1) := by decide +kernel
theorem dX5_rightBehind_1 : decode cX5_rightBehind 1 = .ok (.getfield 9, 3) := by decide +kernel
theorem dX5_rightBehind_4 : decode cX5_rightBehind 4 = .ok (.aload_n 0, 1) := by decide +kernel
theorem dX5_rightBehind_5 : decode cX5_rightBehind 5 = .ok (.getfield 16, 3) := by decide +kernel
theorem dX5_rightBehind_8 : decode cX5_rightBehind 8 = .ok (.invokestatic 64, 3) := by decide +kernel
theorem dX5_rightBehind_11 : decode cX5_rightBehind 11 = .ok (.aload_n 0, 1) := by decide +kernel
theorem dX5_rightBehind_12 : decode cX5_rightBehind 12 = .ok (.iload_n 1, 1) := by decide +kernel
theorem dX5_rightBehind_13 : decode cX5_rightBehind 13 = .ok (.invokevirtual 139, 3) := by decide +kernel
theorem dX5_rightBehind_16 : decode cX5_rightBehind 16 = .ok (.aload_n 0, 1) := by decide +kernel
theorem dX5_rightBehind_17 : decode cX5_rightBehind 17 = .ok (.aload_n 0, 1) := by decide +kernel
theorem dX5_rightBehind_18 : decode cX5_rightBehind 18 = .ok (.aload_n 0, 1) := by decide +kernel
theorem dX5_rightBehind_19 : decode cX5_rightBehind 19 = .ok (.invokevirtual 200, 3) := by decide +kernel
theorem dX5_rightBehind_22 : decode cX5_rightBehind 22 = .ok (.invokevirtual 143, 3) := by decide +kernel
theorem dX5_rightBehind_25 : decode cX5_rightBehind 25 = .ok (.invokevirtual 183, 3) := by decide +kernel
theorem dX5_rightBehind_28 : decode cX5_rightBehind 28 = .ok (.ireturn, 1) := by decide +kernel
set_option maxHeartbeats 4000000 in
set_option maxRecDepth 100000 in
theorem g_X5_rightBehind {E : fh_E} {M : fh_M} (C : fh_Cx E M cX5_rightBehind 2 RX5 ((some FieldType.int)) rm_X5_rightBehind) (Hr : fh_Rt E M) (k1 : Nat) (a2 : Int32) (σ3 : fh_S) : fh_Go E M 2 fh_vI 0 [(0, .ref (fh_ad E k1)), (1, .int a2)] [] σ3 (f_X5_rightBehind k1 a2 σ3) := by
  have hok := fh_cok C
  refine go_ob ?_
  refine go_aload_n C 0 rfl rfl dX5_rightBehind_0 ?_
  refine go_gr (ci := 5) (j := 0) C fh_in5 rfl (by decide) rfl q_746 dX5_rightBehind_1 (fun k4 => ?_)
  refine go_aload_n C 0 rfl rfl dX5_rightBehind_4 ?_
  refine go_gr (ci := 5) (j := 2) C fh_in5 rfl (by decide) rfl q_748 dX5_rightBehind_5 (fun k5 => ?_)
  refine go_callSU C (st := []) [.ref (fh_ad E k4), .ref (fh_ad E k5)] (m_X5_copyRow E _ hok k4 k5 σ3) rfl ⟨q_993, q_994, q_6, q_995⟩ pd_X5_copyRow rfl ⟨⟨Nat.le_of_ble_eq_true rfl, Nat.le_of_ble_eq_true rfl⟩, rfl, rfl⟩ (Nat.le_of_ble_eq_true rfl) dX5_rightBehind_8 (fun _ σ6 => ?_)
  refine go_aload_n C 0 rfl rfl dX5_rightBehind_11 ?_
  refine go_iload_n C 1 rfl rfl dX5_rightBehind_12 ?_
  refine go_callVU C (st := []) [.int a2] (m_X5_ticks E _ hok k1 a2 σ6) (fun _ h => fh_ob_ok h) rfl rfl ⟨q_898, q_900, qs_29, q_6, q_901⟩ pd_X5_ticks rfl ⟨⟨Nat.le_of_ble_eq_true rfl, Nat.le_of_ble_eq_true rfl⟩, rfl, rfl⟩ (Nat.le_of_ble_eq_true rfl) dX5_rightBehind_13 (fun _ σ7 => ?_)
  refine go_aload_n C 0 rfl rfl dX5_rightBehind_16 ?_
  refine go_aload_n C 0 rfl rfl dX5_rightBehind_17 ?_
  refine go_aload_n C 0 rfl rfl dX5_rightBehind_18 ?_
  refine go_callVI C (st := [.ref (fh_ad E k1), .ref (fh_ad E k1)]) [] (m_X5_mostShown E _ hok k1 σ7) (fun _ h => fh_ob_ok h) rfl rfl ⟨q_1041, q_1043, qs_46, q_6, q_1044⟩ pd_X5_mostShown rfl ⟨⟨Nat.le_of_ble_eq_true rfl, Nat.le_of_ble_eq_true rfl⟩, rfl, rfl⟩ (Nat.le_of_ble_eq_true rfl) dX5_rightBehind_19 (fun r9 σ8 => ?_)
  refine go_callVI C (st := [.ref (fh_ad E k1)]) [.int r9] (m_X5_whoShow E _ hok k1 r9 σ8) (fun _ h => fh_ob_ok h) rfl rfl ⟨q_930, q_932, qs_36, q_6, q_933⟩ pd_X5_whoShow rfl ⟨⟨Nat.le_of_ble_eq_true rfl, Nat.le_of_ble_eq_true rfl⟩, rfl, rfl⟩ (Nat.le_of_ble_eq_true rfl) dX5_rightBehind_22 (fun r11 σ10 => ?_)
  refine go_callVI C (st := []) [.int r11] (m_X5_putBack E _ hok k1 r11 σ10) (fun _ h => fh_ob_ok h) rfl rfl ⟨q_996, q_998, qs_43, q_6, q_999⟩ pd_X5_putBack rfl ⟨⟨Nat.le_of_ble_eq_true rfl, Nat.le_of_ble_eq_true rfl⟩, rfl, rfl⟩ (Nat.le_of_ble_eq_true rfl) dX5_rightBehind_25 (fun r13 σ12 => ?_)
  exact go_iret C Hr rfl dX5_rightBehind_28
theorem m_X5_rightBehind (E : fh_E) (l : Launch) (hok : fh_ok E) (k1 : Nat) (a2 : Int32) (σ3 : fh_S) : fh_Met E l yX5_rightBehind cX5_rightBehind 2 ((some FieldType.int)) rm_X5_rightBehind fh_vI [.ref (fh_ad E k1), .int a2] σ3 (f_X5_rightBehind k1 a2 σ3) := fh_met hok (by decide +kernel) (Nat.le_of_ble_eq_true rfl) (fun M _ C Hr => g_X5_rightBehind C Hr k1 a2 σ3)
def f_X5_jogs (k1 : Nat) (a2 : Int32) (σ3 : fh_S) : Option (Int32 × fh_S) := fh_ob 5 k1 (fh_cb (f_X5_within a2 ((0 : Int32)) ((200 : Int32)) σ3) fun r5 σ4 => if r5 = 0 then fh_cb (f_X5_finding k1 ((-1000001 : Int32)) σ4) fun r7 σ6 => some (r7, σ6) else (fh_gr 5 k1 0).bind fun k8 => (fh_ld σ4 k8 ((1 : Int32))).bind fun v9 => fh_cb (f_X5_rightBehind k1 a2 σ4) fun r11 σ10 => fh_cb (f_X5_bits r11 σ10) fun r13 σ12 => some (v9 - r13, σ12))
abbrev rm_X5_jogs : Room := { frames := 8, cells := 0, slots := 0, locals := 175 }
theorem pd_X5_jogs : yX5_jogs.cls ≠ "java/lang/invoke/MethodHandle" ∧ yX5_jogs.cls ≠ "java/lang/invoke/VarHandle" ∧ (parseMethodDescriptor yX5_jogs.desc).map (fun d => d.parameters.length) = some 1 := by decide +kernel
theorem dX5_jogs_0 : decode cX5_jogs 0 = .ok (.iload_n 1, 1) := by decide +kernel
theorem dX5_jogs_1 : decode cX5_jogs 1 = .ok (.iconst 0, 1) := by decide +kernel
theorem dX5_jogs_2 : decode cX5_jogs 2 = .ok (.sipush 200, 3) := by decide +kernel
theorem dX5_jogs_5 : decode cX5_jogs 5 = .ok (.invokestatic 73, 3) := by decide +kernel
theorem dX5_jogs_8 : decode cX5_jogs 8 = .ok (.ifCond .eq 21, 3) := by decide +kernel
theorem dX5_jogs_11 : decode cX5_jogs 11 = .ok (.aload_n 0, 1) := by decide +kernel
theorem dX5_jogs_12 : decode cX5_jogs 12 = .ok (.getfield 9, 3) := by decide +kernel
theorem dX5_jogs_15 : decode cX5_jogs 15 = .ok (.iconst 1, 1) := by decide +kernel
theorem dX5_jogs_16 : decode cX5_jogs 16 = .ok (.iaload, 1) := by decide +kernel
theorem dX5_jogs_17 : decode cX5_jogs 17 = .ok (.aload_n 0, 1) := by decide +kernel
theorem dX5_jogs_18 : decode cX5_jogs 18 = .ok (.iload_n 1, 1) := by decide +kernel
theorem dX5_jogs_19 : decode cX5_jogs 19 = .ok (.invokevirtual 203, 3) := by decide +kernel
theorem dX5_jogs_22 : decode cX5_jogs 22 = .ok (.invokestatic 146, 3) := by decide +kernel
theorem dX5_jogs_25 : decode cX5_jogs 25 = .ok (.isub, 1) := by decide +kernel
theorem dX5_jogs_26 : decode cX5_jogs 26 = .ok (.goto 9, 3) := by decide +kernel
theorem dX5_jogs_29 : decode cX5_jogs 29 = .ok (.aload_n 0, 1) := by decide +kernel
theorem dX5_jogs_30 : decode cX5_jogs 30 = .ok (.ldc 63, 2) := by decide +kernel
theorem dX5_jogs_32 : decode cX5_jogs 32 = .ok (.invokevirtual 69, 3) := by decide +kernel
theorem dX5_jogs_35 : decode cX5_jogs 35 = .ok (.ireturn, 1) := by decide +kernel
set_option maxHeartbeats 4000000 in
set_option maxRecDepth 100000 in
theorem g_X5_jogs {E : fh_E} {M : fh_M} (C : fh_Cx E M cX5_jogs 2 RX5 ((some FieldType.int)) rm_X5_jogs) (Hr : fh_Rt E M) (k1 : Nat) (a2 : Int32) (σ3 : fh_S) : fh_Go E M 2 fh_vI 0 [(0, .ref (fh_ad E k1)), (1, .int a2)] [] σ3 (f_X5_jogs k1 a2 σ3) := by
  have hok := fh_cok C
  refine go_ob ?_
  refine go_iload_n C 1 rfl rfl dX5_jogs_0 ?_
  refine go_iconst C (0 : Int32) dX5_jogs_1 rfl ?_
  refine go_sipush C (200 : Int32) dX5_jogs_2 rfl ?_
  refine go_callSI C (st := []) [.int a2, .int ((0 : Int32)), .int ((200 : Int32))] (m_X5_within E _ hok a2 ((0 : Int32)) ((200 : Int32)) σ3) rfl ⟨q_817, q_818, q_6, q_819⟩ pd_X5_within rfl ⟨⟨Nat.le_of_ble_eq_true rfl, Nat.le_of_ble_eq_true rfl⟩, rfl, rfl⟩ (Nat.le_of_ble_eq_true rfl) dX5_jogs_5 (fun r5 σ4 => ?_)
  refine go_if_eq (tgt := 29) C dX5_jogs_8 rfl (fun _ => ?_) (fun _ => ?_)
  · refine go_aload_n C 0 rfl rfl dX5_jogs_29 ?_
    refine go_ldc C q_820 dX5_jogs_30 ?_
    refine go_callVI C (st := []) [.int ((-1000001 : Int32))] (m_X5_finding E _ hok k1 ((-1000001 : Int32)) σ4) (fun _ h => fh_ob_ok h) rfl rfl ⟨q_821, q_823, qs_19, q_6, q_824⟩ pd_X5_finding rfl ⟨⟨Nat.le_of_ble_eq_true rfl, Nat.le_of_ble_eq_true rfl⟩, rfl, rfl⟩ (Nat.le_of_ble_eq_true rfl) dX5_jogs_32 (fun r7 σ6 => ?_)
    exact go_iret C Hr rfl dX5_jogs_35
  · refine go_aload_n C 0 rfl rfl dX5_jogs_11 ?_
    refine go_gr (ci := 5) (j := 0) C fh_in5 rfl (by decide) rfl q_746 dX5_jogs_12 (fun k8 => ?_)
    refine go_iconst C (1 : Int32) dX5_jogs_15 rfl ?_
    refine go_iald C dX5_jogs_16 (fun v9 => ?_)
    refine go_aload_n C 0 rfl rfl dX5_jogs_17 ?_
    refine go_iload_n C 1 rfl rfl dX5_jogs_18 ?_
    refine go_callVI C (st := [.int v9]) [.int a2] (m_X5_rightBehind E _ hok k1 a2 σ4) (fun _ h => fh_ob_ok h) rfl rfl ⟨q_1049, q_1051, qs_47, q_6, q_1052⟩ pd_X5_rightBehind rfl ⟨⟨Nat.le_of_ble_eq_true rfl, Nat.le_of_ble_eq_true rfl⟩, rfl, rfl⟩ (Nat.le_of_ble_eq_true rfl) dX5_jogs_19 (fun r11 σ10 => ?_)
    refine go_callSI C (st := [.int v9]) [.int r11] (m_X5_bits E _ hok r11 σ10) rfl ⟨q_934, q_935, q_6, q_936⟩ pd_X5_bits rfl ⟨⟨Nat.le_of_ble_eq_true rfl, Nat.le_of_ble_eq_true rfl⟩, rfl, rfl⟩ (Nat.le_of_ble_eq_true rfl) dX5_jogs_22 (fun r13 σ12 => ?_)
    refine go_isub C dX5_jogs_25 ?_
    refine go_goto C 35 dX5_jogs_26 rfl ?_
    exact go_iret C Hr rfl dX5_jogs_35
theorem m_X5_jogs (E : fh_E) (l : Launch) (hok : fh_ok E) (k1 : Nat) (a2 : Int32) (σ3 : fh_S) : fh_Met E l yX5_jogs cX5_jogs 2 ((some FieldType.int)) rm_X5_jogs fh_vI [.ref (fh_ad E k1), .int a2] σ3 (f_X5_jogs k1 a2 σ3) := fh_met hok (by decide +kernel) (Nat.le_of_ble_eq_true rfl) (fun M _ C Hr => g_X5_jogs C Hr k1 a2 σ3)
def f_X5_right (k1 : Nat) (a2 : Int32) (σ3 : fh_S) : Option (Int32 × fh_S) := fh_ob 5 k1 (fh_cb (f_X5_within a2 ((0 : Int32)) ((200 : Int32)) σ3) fun r5 σ4 => if r5 = 0 then fh_cb (f_X5_finding k1 ((-1000001 : Int32)) σ4) fun r7 σ6 => some (r7, σ6) else fh_cb (f_X5_rightBehind k1 a2 σ4) fun r9 σ8 => some (r9, σ8))
abbrev rm_X5_right : Room := { frames := 8, cells := 0, slots := 0, locals := 175 }
theorem pd_X5_right : yX5_right.cls ≠ "java/lang/invoke/MethodHandle" ∧ yX5_right.cls ≠ "java/lang/invoke/VarHandle" ∧ (parseMethodDescriptor yX5_right.desc).map (fun d => d.parameters.length) = some 1 := by decide +kernel
theorem dX5_right_0 : decode cX5_right 0 = .ok (.iload_n 1, 1) := by decide +kernel
theorem dX5_right_1 : decode cX5_right 1 = .ok (.iconst 0, 1) := by decide +kernel
theorem dX5_right_2 : decode cX5_right 2 = .ok (.sipush 200, 3) := by decide +kernel
theorem dX5_right_5 : decode cX5_right 5 = .ok (.invokestatic 73, 3) := by decide +kernel
theorem dX5_right_8 : decode cX5_right 8 = .ok (.ifCond .eq 11, 3) := by decide +kernel
theorem dX5_right_11 : decode cX5_right 11 = .ok (.aload_n 0, 1) := by decide +kernel
theorem dX5_right_12 : decode cX5_right 12 = .ok (.iload_n 1, 1) := by decide +kernel
theorem dX5_right_13 : decode cX5_right 13 = .ok (.invokevirtual 203, 3) := by decide +kernel
theorem dX5_right_16 : decode cX5_right 16 = .ok (.goto 9, 3) := by decide +kernel
theorem dX5_right_19 : decode cX5_right 19 = .ok (.aload_n 0, 1) := by decide +kernel
theorem dX5_right_20 : decode cX5_right 20 = .ok (.ldc 63, 2) := by decide +kernel
theorem dX5_right_22 : decode cX5_right 22 = .ok (.invokevirtual 69, 3) := by decide +kernel
theorem dX5_right_25 : decode cX5_right 25 = .ok (.ireturn, 1) := by decide +kernel
set_option maxHeartbeats 4000000 in
set_option maxRecDepth 100000 in
theorem g_X5_right {E : fh_E} {M : fh_M} (C : fh_Cx E M cX5_right 2 RX5 ((some FieldType.int)) rm_X5_right) (Hr : fh_Rt E M) (k1 : Nat) (a2 : Int32) (σ3 : fh_S) : fh_Go E M 2 fh_vI 0 [(0, .ref (fh_ad E k1)), (1, .int a2)] [] σ3 (f_X5_right k1 a2 σ3) := by
  have hok := fh_cok C
  refine go_ob ?_
  refine go_iload_n C 1 rfl rfl dX5_right_0 ?_
  refine go_iconst C (0 : Int32) dX5_right_1 rfl ?_
  refine go_sipush C (200 : Int32) dX5_right_2 rfl ?_
  refine go_callSI C (st := []) [.int a2, .int ((0 : Int32)), .int ((200 : Int32))] (m_X5_within E _ hok a2 ((0 : Int32)) ((200 : Int32)) σ3) rfl ⟨q_817, q_818, q_6, q_819⟩ pd_X5_within rfl ⟨⟨Nat.le_of_ble_eq_true rfl, Nat.le_of_ble_eq_true rfl⟩, rfl, rfl⟩ (Nat.le_of_ble_eq_true rfl) dX5_right_5 (fun r5 σ4 => ?_)
  refine go_if_eq (tgt := 19) C dX5_right_8 rfl (fun _ => ?_) (fun _ => ?_)
  · refine go_aload_n C 0 rfl rfl dX5_right_19 ?_
    refine go_ldc C q_820 dX5_right_20 ?_
    refine go_callVI C (st := []) [.int ((-1000001 : Int32))] (m_X5_finding E _ hok k1 ((-1000001 : Int32)) σ4) (fun _ h => fh_ob_ok h) rfl rfl ⟨q_821, q_823, qs_19, q_6, q_824⟩ pd_X5_finding rfl ⟨⟨Nat.le_of_ble_eq_true rfl, Nat.le_of_ble_eq_true rfl⟩, rfl, rfl⟩ (Nat.le_of_ble_eq_true rfl) dX5_right_22 (fun r7 σ6 => ?_)
    exact go_iret C Hr rfl dX5_right_25
  · refine go_aload_n C 0 rfl rfl dX5_right_11 ?_
    refine go_iload_n C 1 rfl rfl dX5_right_12 ?_
    refine go_callVI C (st := []) [.int a2] (m_X5_rightBehind E _ hok k1 a2 σ4) (fun _ h => fh_ob_ok h) rfl rfl ⟨q_1049, q_1051, qs_47, q_6, q_1052⟩ pd_X5_rightBehind rfl ⟨⟨Nat.le_of_ble_eq_true rfl, Nat.le_of_ble_eq_true rfl⟩, rfl, rfl⟩ (Nat.le_of_ble_eq_true rfl) dX5_right_13 (fun r9 σ8 => ?_)
    refine go_goto C 25 dX5_right_16 rfl ?_
    exact go_iret C Hr rfl dX5_right_25
theorem m_X5_right (E : fh_E) (l : Launch) (hok : fh_ok E) (k1 : Nat) (a2 : Int32) (σ3 : fh_S) : fh_Met E l yX5_right cX5_right 2 ((some FieldType.int)) rm_X5_right fh_vI [.ref (fh_ad E k1), .int a2] σ3 (f_X5_right k1 a2 σ3) := fh_met hok (by decide +kernel) (Nat.le_of_ble_eq_true rfl) (fun M _ C Hr => g_X5_right C Hr k1 a2 σ3)
def f_X5_isSheet (a1 : Int32) (σ2 : fh_S) : Option (Int32 × fh_S) := fh_cb (f_X5_within a1 ((0 : Int32)) ((3 : Int32)) σ2) fun r4 σ3 => fh_rz r4 σ3
abbrev rm_X5_isSheet : Room := { frames := 1, cells := 0, slots := 0, locals := 22 }
theorem pd_X5_isSheet : yX5_isSheet.cls ≠ "java/lang/invoke/MethodHandle" ∧ yX5_isSheet.cls ≠ "java/lang/invoke/VarHandle" ∧ (parseMethodDescriptor yX5_isSheet.desc).map (fun d => d.parameters.length) = some 1 := by decide +kernel
theorem dX5_isSheet_0 : decode cX5_isSheet 0 = .ok (.iload_n 0, 1) := by decide +kernel
theorem dX5_isSheet_1 : decode cX5_isSheet 1 = .ok (.iconst 0, 1) := by decide +kernel
theorem dX5_isSheet_2 : decode cX5_isSheet 2 = .ok (.iconst 3, 1) := by decide +kernel
theorem dX5_isSheet_3 : decode cX5_isSheet 3 = .ok (.invokestatic 73, 3) := by decide +kernel
theorem dX5_isSheet_6 : decode cX5_isSheet 6 = .ok (.ireturn, 1) := by decide +kernel
set_option maxHeartbeats 4000000 in
set_option maxRecDepth 100000 in
theorem g_X5_isSheet {E : fh_E} {M : fh_M} (C : fh_Cx E M cX5_isSheet 1 RX5 ((some FieldType.boolean)) rm_X5_isSheet) (Hr : fh_Rt E M) (a1 : Int32) (σ2 : fh_S) : fh_Go E M 1 fh_vI 0 [(0, .int a1)] [] σ2 (f_X5_isSheet a1 σ2) := by
  have hok := fh_cok C
  refine go_iload_n C 0 rfl rfl dX5_isSheet_0 ?_
  refine go_iconst C (0 : Int32) dX5_isSheet_1 rfl ?_
  refine go_iconst C (3 : Int32) dX5_isSheet_2 rfl ?_
  refine go_callSI C (st := []) [.int a1, .int ((0 : Int32)), .int ((3 : Int32))] (m_X5_within E _ hok a1 ((0 : Int32)) ((3 : Int32)) σ2) rfl ⟨q_817, q_818, q_6, q_819⟩ pd_X5_within rfl ⟨⟨Nat.le_of_ble_eq_true rfl, Nat.le_of_ble_eq_true rfl⟩, rfl, rfl⟩ (Nat.le_of_ble_eq_true rfl) dX5_isSheet_3 (fun r4 σ3 => ?_)
  exact go_zret C Hr dX5_isSheet_6
theorem m_X5_isSheet (E : fh_E) (l : Launch) (hok : fh_ok E) (a1 : Int32) (σ2 : fh_S) : fh_Met E l yX5_isSheet cX5_isSheet 1 ((some FieldType.boolean)) rm_X5_isSheet fh_vI [.int a1] σ2 (f_X5_isSheet a1 σ2) := fh_met hok (by decide +kernel) (Nat.le_of_ble_eq_true rfl) (fun M _ C Hr => g_X5_isSheet C Hr a1 σ2)
def f_X5_lacks (k1 : Nat) (a2 : Int32) (σ3 : fh_S) : Option (Int32 × fh_S) := fh_ob 5 k1 (fh_cb (f_X5_isSheet a2 σ3) fun r5 σ4 => if r5 = 0 then some ((-1000001 : Int32), σ4) else (fh_gr 5 k1 17).bind fun k6 => (fh_ld σ4 k6 a2).bind fun v7 => if v7 = 0 then some ((-1000006 : Int32), σ4) else some ((0 : Int32), σ4))
abbrev rm_X5_lacks : Room := { frames := 2, cells := 0, slots := 0, locals := 42 }
theorem pd_X5_lacks : yX5_lacks.cls ≠ "java/lang/invoke/MethodHandle" ∧ yX5_lacks.cls ≠ "java/lang/invoke/VarHandle" ∧ (parseMethodDescriptor yX5_lacks.desc).map (fun d => d.parameters.length) = some 1 := by decide +kernel
theorem dX5_lacks_0 : decode cX5_lacks 0 = .ok (.iload_n 1, 1) := by decide +kernel
theorem dX5_lacks_1 : decode cX5_lacks 1 = .ok (.invokestatic 206, 3) := by decide +kernel
theorem dX5_lacks_4 : decode cX5_lacks 4 = .ok (.ifCond .ne 8, 3) := by decide +kernel
theorem dX5_lacks_7 : decode cX5_lacks 7 = .ok (.ldc 63, 2) := by decide +kernel
theorem dX5_lacks_9 : decode cX5_lacks 9 = .ok (.goto 18, 3) := by decide +kernel
theorem dX5_lacks_12 : decode cX5_lacks 12 = .ok (.aload_n 0, 1) := by decide +kernel
theorem dX5_lacks_13 : decode cX5_lacks 13 = .ok (.getfield 51, 3) := by decide +kernel
theorem dX5_lacks_16 : decode cX5_lacks 16 = .ok (.iload_n 1, 1) := by decide +kernel
theorem dX5_lacks_17 : decode cX5_lacks 17 = .ok (.iaload, 1) := by decide +kernel
theorem dX5_lacks_18 : decode cX5_lacks 18 = .ok (.ifCond .ne 8, 3) := by decide +kernel
theorem dX5_lacks_21 : decode cX5_lacks 21 = .ok (.ldc 209, 2) := by decide +kernel
theorem dX5_lacks_23 : decode cX5_lacks 23 = .ok (.goto 4, 3) := by decide +kernel
theorem dX5_lacks_26 : decode cX5_lacks 26 = .ok (.iconst 0, 1) := by decide +kernel
theorem dX5_lacks_27 : decode cX5_lacks 27 = .ok (.ireturn, 1) := by decide +kernel
set_option maxHeartbeats 4000000 in
set_option maxRecDepth 100000 in
theorem g_X5_lacks {E : fh_E} {M : fh_M} (C : fh_Cx E M cX5_lacks 2 RX5 ((some FieldType.int)) rm_X5_lacks) (Hr : fh_Rt E M) (k1 : Nat) (a2 : Int32) (σ3 : fh_S) : fh_Go E M 2 fh_vI 0 [(0, .ref (fh_ad E k1)), (1, .int a2)] [] σ3 (f_X5_lacks k1 a2 σ3) := by
  have hok := fh_cok C
  refine go_ob ?_
  refine go_iload_n C 1 rfl rfl dX5_lacks_0 ?_
  refine go_callSI C (st := []) [.int a2] (m_X5_isSheet E _ hok a2 σ3) rfl ⟨q_1065, q_1066, q_6, q_1067⟩ pd_X5_isSheet rfl ⟨⟨Nat.le_of_ble_eq_true rfl, Nat.le_of_ble_eq_true rfl⟩, rfl, rfl⟩ (Nat.le_of_ble_eq_true rfl) dX5_lacks_1 (fun r5 σ4 => ?_)
  refine go_if_ne (tgt := 12) C dX5_lacks_4 rfl (fun _ => ?_) (fun _ => ?_)
  · refine go_aload_n C 0 rfl rfl dX5_lacks_12 ?_
    refine go_gr (ci := 5) (j := 17) C fh_in5 rfl (by decide) rfl q_763 dX5_lacks_13 (fun k6 => ?_)
    refine go_iload_n C 1 rfl rfl dX5_lacks_16 ?_
    refine go_iald C dX5_lacks_17 (fun v7 => ?_)
    refine go_if_ne (tgt := 26) C dX5_lacks_18 rfl (fun _ => ?_) (fun _ => ?_)
    · refine go_iconst C (0 : Int32) dX5_lacks_26 rfl ?_
      exact go_iret C Hr rfl dX5_lacks_27
    · refine go_ldc C q_1068 dX5_lacks_21 ?_
      refine go_goto C 27 dX5_lacks_23 rfl ?_
      exact go_iret C Hr rfl dX5_lacks_27
  · refine go_ldc C q_820 dX5_lacks_7 ?_
    refine go_goto C 27 dX5_lacks_9 rfl ?_
    exact go_iret C Hr rfl dX5_lacks_27
theorem m_X5_lacks (E : fh_E) (l : Launch) (hok : fh_ok E) (k1 : Nat) (a2 : Int32) (σ3 : fh_S) : fh_Met E l yX5_lacks cX5_lacks 2 ((some FieldType.int)) rm_X5_lacks fh_vI [.ref (fh_ad E k1), .int a2] σ3 (f_X5_lacks k1 a2 σ3) := fh_met hok (by decide +kernel) (Nat.le_of_ble_eq_true rfl) (fun M _ C Hr => g_X5_lacks C Hr k1 a2 σ3)
def f_X5_isShownSo_J78 (k1 : Nat) (x8 : Int32) : fh_S → Option (Int32 × fh_S) := fun σ14 => (fh_gr 5 k1 2).bind fun k15 => (fh_gr 5 k1 0).bind fun k16 => fh_cb (f_X5_copyRow k15 k16 σ14) fun _ σ17 => fh_rz x8 σ17
def f_X5_isShownSo_J67 (k1 : Nat) (r11 : Int32 → Int32 → fh_S → Option (Int32 × fh_S)) (x9 : Int32) : Int32 → fh_S → Option (Int32 × fh_S) := fun x21 σ22 => fh_cb (f_X5_tick k1 σ22) fun _ σ23 => r11 x21 (x9 + 1) σ23
def f_X5_isShownSo_J62 (j24 : Int32 → fh_S → Option (Int32 × fh_S)) : fh_S → Option (Int32 × fh_S) := fun σ25 => j24 ((1 : Int32)) σ25
def f_X5_isShownSo_B16 (k1 : Nat) (a2 : Int32) (a3 : Int32) (r11 : Int32 → Int32 → fh_S → Option (Int32 × fh_S)) : Int32 → Int32 → fh_S → Option (Int32 × fh_S) := fun x8 x9 σ10 => (fh_gr 5 k1 18).bind fun k12 => (fh_ld σ10 k12 a2).bind fun v13 => fh_jn (f_X5_isShownSo_J78 k1 x8) (fun j18 => if v13 ≤ x9 then j18 σ10 else if x8 = 0 then j18 σ10 else (fh_gr 5 k1 19).bind fun k19 => (fh_ld σ10 k19 ((((40 : Int32)) * a2) + x9)).bind fun v20 => fh_jn (f_X5_isShownSo_J67 k1 r11 x9) (fun j24 => fh_jn (f_X5_isShownSo_J62 j24) (fun j26 => if v20 = ((-1 : Int32)) then j26 σ10 else fh_cb (f_X5_dialIs k1 a3 ((1 : Int32)) σ10) fun r28 σ27 => if v20 = r28 then j26 σ27 else j24 ((0 : Int32)) σ27)))
def f_X5_isShownSo (k1 : Nat) (a2 : Int32) (a3 : Int32) (σ4 : fh_S) : Option (Int32 × fh_S) := fh_ob 5 k1 ((fh_gr 5 k1 0).bind fun k5 => (fh_gr 5 k1 2).bind fun k6 => fh_cb (f_X5_copyRow k5 k6 σ4) fun _ σ7 => fh_fx (ρ := Int32 → Int32 → fh_S → Option (Int32 × fh_S)) (fun _ _ _ => none) (f_X5_isShownSo_B16 k1 a2 a3) fh_fu ((1 : Int32)) ((0 : Int32)) σ7)
abbrev rm_X5_isShownSo : Room := { frames := 6, cells := 0, slots := 0, locals := 132 }
theorem pd_X5_isShownSo : yX5_isShownSo.cls ≠ "java/lang/invoke/MethodHandle" ∧ yX5_isShownSo.cls ≠ "java/lang/invoke/VarHandle" ∧ (parseMethodDescriptor yX5_isShownSo.desc).map (fun d => d.parameters.length) = some 2 := by decide +kernel
theorem dX5_isShownSo_0 : decode cX5_isShownSo 0 = .ok (.aload_n 0, 1) := by decide +kernel
theorem dX5_isShownSo_1 : decode cX5_isShownSo 1 = .ok (.getfield 9, 3) := by decide +kernel
theorem dX5_isShownSo_4 : decode cX5_isShownSo 4 = .ok (.aload_n 0, 1) := by decide +kernel
theorem dX5_isShownSo_5 : decode cX5_isShownSo 5 = .ok (.getfield 16, 3) := by decide +kernel
theorem dX5_isShownSo_8 : decode cX5_isShownSo 8 = .ok (.invokestatic 64, 3) := by decide +kernel
theorem dX5_isShownSo_11 : decode cX5_isShownSo 11 = .ok (.iconst 1, 1) := by decide +kernel
theorem dX5_isShownSo_12 : decode cX5_isShownSo 12 = .ok (.istore_n 3, 1) := by decide +kernel
theorem dX5_isShownSo_13 : decode cX5_isShownSo 13 = .ok (.iconst 0, 1) := by decide +kernel
theorem dX5_isShownSo_14 : decode cX5_isShownSo 14 = .ok (.istore 4, 2) := by decide +kernel
theorem dX5_isShownSo_16 : decode cX5_isShownSo 16 = .ok (.iload 4, 2) := by decide +kernel
theorem dX5_isShownSo_18 : decode cX5_isShownSo 18 = .ok (.aload_n 0, 1) := by decide +kernel
theorem dX5_isShownSo_19 : decode cX5_isShownSo 19 = .ok (.getfield 54, 3) := by decide +kernel
theorem dX5_isShownSo_22 : decode cX5_isShownSo 22 = .ok (.iload_n 1, 1) := by decide +kernel
theorem dX5_isShownSo_23 : decode cX5_isShownSo 23 = .ok (.iaload, 1) := by decide +kernel
theorem dX5_isShownSo_24 : decode cX5_isShownSo 24 = .ok (.if_icmp .ge 54, 3) := by decide +kernel
theorem dX5_isShownSo_27 : decode cX5_isShownSo 27 = .ok (.iload_n 3, 1) := by decide +kernel
theorem dX5_isShownSo_28 : decode cX5_isShownSo 28 = .ok (.ifCond .eq 50, 3) := by decide +kernel
theorem dX5_isShownSo_31 : decode cX5_isShownSo 31 = .ok (.aload_n 0, 1) := by decide +kernel
theorem dX5_isShownSo_32 : decode cX5_isShownSo 32 = .ok (.getfield 57, 3) := by decide +kernel
theorem dX5_isShownSo_35 : decode cX5_isShownSo 35 = .ok (.bipush 40, 2) := by decide +kernel
theorem dX5_isShownSo_37 : decode cX5_isShownSo 37 = .ok (.iload_n 1, 1) := by decide +kernel
theorem dX5_isShownSo_38 : decode cX5_isShownSo 38 = .ok (.imul, 1) := by decide +kernel
theorem dX5_isShownSo_39 : decode cX5_isShownSo 39 = .ok (.iload 4, 2) := by decide +kernel
theorem dX5_isShownSo_41 : decode cX5_isShownSo 41 = .ok (.iadd, 1) := by decide +kernel
theorem dX5_isShownSo_42 : decode cX5_isShownSo 42 = .ok (.iaload, 1) := by decide +kernel
theorem dX5_isShownSo_43 : decode cX5_isShownSo 43 = .ok (.istore 5, 2) := by decide +kernel
theorem dX5_isShownSo_45 : decode cX5_isShownSo 45 = .ok (.iload 5, 2) := by decide +kernel
theorem dX5_isShownSo_47 : decode cX5_isShownSo 47 = .ok (.iconst (-1), 1) := by decide +kernel
theorem dX5_isShownSo_48 : decode cX5_isShownSo 48 = .ok (.if_icmp .eq 14, 3) := by decide +kernel
theorem dX5_isShownSo_51 : decode cX5_isShownSo 51 = .ok (.iload 5, 2) := by decide +kernel
theorem dX5_isShownSo_53 : decode cX5_isShownSo 53 = .ok (.aload_n 0, 1) := by decide +kernel
theorem dX5_isShownSo_54 : decode cX5_isShownSo 54 = .ok (.iload_n 2, 1) := by decide +kernel
theorem dX5_isShownSo_55 : decode cX5_isShownSo 55 = .ok (.iconst 1, 1) := by decide +kernel
theorem dX5_isShownSo_56 : decode cX5_isShownSo 56 = .ok (.invokevirtual 81, 3) := by decide +kernel
theorem dX5_isShownSo_59 : decode cX5_isShownSo 59 = .ok (.if_icmp .ne 7, 3) := by decide +kernel
theorem dX5_isShownSo_62 : decode cX5_isShownSo 62 = .ok (.iconst 1, 1) := by decide +kernel
theorem dX5_isShownSo_63 : decode cX5_isShownSo 63 = .ok (.goto 4, 3) := by decide +kernel
theorem dX5_isShownSo_66 : decode cX5_isShownSo 66 = .ok (.iconst 0, 1) := by decide +kernel
theorem dX5_isShownSo_67 : decode cX5_isShownSo 67 = .ok (.istore_n 3, 1) := by decide +kernel
theorem dX5_isShownSo_68 : decode cX5_isShownSo 68 = .ok (.aload_n 0, 1) := by decide +kernel
theorem dX5_isShownSo_69 : decode cX5_isShownSo 69 = .ok (.invokevirtual 134, 3) := by decide +kernel
theorem dX5_isShownSo_72 : decode cX5_isShownSo 72 = .ok (.iinc 4 1, 3) := by decide +kernel
theorem dX5_isShownSo_75 : decode cX5_isShownSo 75 = .ok (.goto (-59), 3) := by decide +kernel
theorem dX5_isShownSo_78 : decode cX5_isShownSo 78 = .ok (.aload_n 0, 1) := by decide +kernel
theorem dX5_isShownSo_79 : decode cX5_isShownSo 79 = .ok (.getfield 16, 3) := by decide +kernel
theorem dX5_isShownSo_82 : decode cX5_isShownSo 82 = .ok (.aload_n 0, 1) := by decide +kernel
theorem dX5_isShownSo_83 : decode cX5_isShownSo 83 = .ok (.getfield 9, 3) := by decide +kernel
theorem dX5_isShownSo_86 : decode cX5_isShownSo 86 = .ok (.invokestatic 64, 3) := by decide +kernel
theorem dX5_isShownSo_89 : decode cX5_isShownSo 89 = .ok (.iload_n 3, 1) := by decide +kernel
theorem dX5_isShownSo_90 : decode cX5_isShownSo 90 = .ok (.ireturn, 1) := by decide +kernel
set_option maxHeartbeats 4000000 in
set_option maxRecDepth 100000 in
theorem g_X5_isShownSo {E : fh_E} {M : fh_M} (C : fh_Cx E M cX5_isShownSo 6 RX5 ((some FieldType.boolean)) rm_X5_isShownSo) (Hr : fh_Rt E M) (k1 : Nat) (a2 : Int32) (a3 : Int32) (σ4 : fh_S) : fh_Go E M 6 fh_vI 0 [(0, .ref (fh_ad E k1)), (1, .int a2), (2, .int a3)] [] σ4 (f_X5_isShownSo k1 a2 a3 σ4) := by
  have hok := fh_cok C
  refine go_ob ?_
  refine go_aload_n C 0 rfl rfl dX5_isShownSo_0 ?_
  refine go_gr (ci := 5) (j := 0) C fh_in5 rfl (by decide) rfl q_746 dX5_isShownSo_1 (fun k5 => ?_)
  refine go_aload_n C 0 rfl rfl dX5_isShownSo_4 ?_
  refine go_gr (ci := 5) (j := 2) C fh_in5 rfl (by decide) rfl q_748 dX5_isShownSo_5 (fun k6 => ?_)
  refine go_callSU C (st := []) [.ref (fh_ad E k5), .ref (fh_ad E k6)] (m_X5_copyRow E _ hok k5 k6 σ4) rfl ⟨q_993, q_994, q_6, q_995⟩ pd_X5_copyRow rfl ⟨⟨Nat.le_of_ble_eq_true rfl, Nat.le_of_ble_eq_true rfl⟩, rfl, rfl⟩ (Nat.le_of_ble_eq_true rfl) dX5_isShownSo_8 (fun _ σ7 => ?_)
  refine go_iconst C (1 : Int32) dX5_isShownSo_11 rfl ?_
  refine go_istore_n C [(3, .int ((1 : Int32))), (0, .ref (fh_ad E k1)), (1, .int a2), (2, .int a3)] rfl rfl (by decide) dX5_isShownSo_12 ?_
  refine go_iconst C (0 : Int32) dX5_isShownSo_13 rfl ?_
  refine go_istore C [(4, .int ((0 : Int32))), (3, .int ((1 : Int32))), (0, .ref (fh_ad E k1)), (1, .int a2), (2, .int a3)] rfl (by decide) dX5_isShownSo_14 ?_
  refine go_lv [2, 3, 4, 1, 0] (lv' := [(0, .ref (fh_ad E k1)), (1, .int a2), (2, .int a3), (3, .int ((1 : Int32))), (4, .int ((0 : Int32)))]) rfl ?_
  refine go_fx (fun (r11 : Int32 → Int32 → fh_S → Option (Int32 × fh_S)) => ∀ (x8 : Int32) (x9 : Int32) (σ10 : fh_S), fh_Go E M 6 fh_vI 16 [(0, .ref (fh_ad E k1)), (1, .int a2), (2, .int a3), (3, .int x8), (4, .int x9)] [] σ10 (r11 x8 x9 σ10)) ?_ ?_ fh_fu ((1 : Int32)) ((0 : Int32)) σ7
  · intro x8 x9 σ10
    exact go_none
  · intro r11 hr11 x8 x9 σ10
    refine go_iload C 4 rfl dX5_isShownSo_16 ?_
    refine go_aload_n C 0 rfl rfl dX5_isShownSo_18 ?_
    refine go_gr (ci := 5) (j := 18) C fh_in5 rfl (by decide) rfl q_764 dX5_isShownSo_19 (fun k12 => ?_)
    refine go_iload_n C 1 rfl rfl dX5_isShownSo_22 ?_
    refine go_iald C dX5_isShownSo_23 (fun v13 => ?_)
    refine go_jn (fun (j18 : fh_S → Option (Int32 × fh_S)) => ∀ (σ14 : fh_S), fh_Go E M 6 fh_vI 78 [(0, .ref (fh_ad E k1)), (3, .int x8)] [] σ14 (j18 σ14)) ?_ (fun j18 hj18 => ?_)
    · intro σ14
      refine go_aload_n C 0 rfl rfl dX5_isShownSo_78 ?_
      refine go_gr (ci := 5) (j := 2) C fh_in5 rfl (by decide) rfl q_748 dX5_isShownSo_79 (fun k15 => ?_)
      refine go_aload_n C 0 rfl rfl dX5_isShownSo_82 ?_
      refine go_gr (ci := 5) (j := 0) C fh_in5 rfl (by decide) rfl q_746 dX5_isShownSo_83 (fun k16 => ?_)
      refine go_callSU C (st := []) [.ref (fh_ad E k15), .ref (fh_ad E k16)] (m_X5_copyRow E _ hok k15 k16 σ14) rfl ⟨q_993, q_994, q_6, q_995⟩ pd_X5_copyRow rfl ⟨⟨Nat.le_of_ble_eq_true rfl, Nat.le_of_ble_eq_true rfl⟩, rfl, rfl⟩ (Nat.le_of_ble_eq_true rfl) dX5_isShownSo_86 (fun _ σ17 => ?_)
      refine go_iload_n C 1 rfl rfl dX5_isShownSo_89 ?_
      exact go_zret C Hr dX5_isShownSo_90
    refine go_icmp_ge (tgt := 78) C dX5_isShownSo_24 rfl (fun _ => ?_) (fun _ => ?_)
    · refine go_lv [0, 3] (lv' := [(0, .ref (fh_ad E k1)), (3, .int x8)]) rfl ?_
      exact hj18 σ10
    · refine go_iload_n C 3 rfl rfl dX5_isShownSo_27 ?_
      refine go_if_eq (tgt := 78) C dX5_isShownSo_28 rfl (fun _ => ?_) (fun _ => ?_)
      · refine go_lv [0, 3] (lv' := [(0, .ref (fh_ad E k1)), (3, .int x8)]) rfl ?_
        exact hj18 σ10
      · refine go_aload_n C 0 rfl rfl dX5_isShownSo_31 ?_
        refine go_gr (ci := 5) (j := 19) C fh_in5 rfl (by decide) rfl q_765 dX5_isShownSo_32 (fun k19 => ?_)
        refine go_bipush C (40 : Int32) dX5_isShownSo_35 rfl ?_
        refine go_iload_n C 1 rfl rfl dX5_isShownSo_37 ?_
        refine go_imul C dX5_isShownSo_38 ?_
        refine go_iload C 4 rfl dX5_isShownSo_39 ?_
        refine go_iadd C dX5_isShownSo_41 ?_
        refine go_iald C dX5_isShownSo_42 (fun v20 => ?_)
        refine go_istore C [(5, .int v20), (0, .ref (fh_ad E k1)), (1, .int a2), (2, .int a3), (3, .int x8), (4, .int x9)] rfl (by decide) dX5_isShownSo_43 ?_
        refine go_iload C 0 rfl dX5_isShownSo_45 ?_
        refine go_iconst C (-1 : Int32) dX5_isShownSo_47 rfl ?_
        refine go_jn (fun (j24 : Int32 → fh_S → Option (Int32 × fh_S)) => ∀ (x21 : Int32) (σ22 : fh_S), fh_Go E M 6 fh_vI 67 [(0, .ref (fh_ad E k1)), (1, .int a2), (2, .int a3), (4, .int x9)] [.int x21] σ22 (j24 x21 σ22)) ?_ (fun j24 hj24 => ?_)
        · intro x21 σ22
          refine go_istore_n C [(3, .int x21), (0, .ref (fh_ad E k1)), (1, .int a2), (2, .int a3), (4, .int x9)] rfl rfl (by decide) dX5_isShownSo_67 ?_
          refine go_aload_n C 1 rfl rfl dX5_isShownSo_68 ?_
          refine go_callVU C (st := []) [] (m_X5_tick E _ hok k1 σ22) (fun _ h => fh_ob_ok h) rfl rfl ⟨q_902, q_904, qs_30, q_6, q_905⟩ pd_X5_tick rfl ⟨⟨Nat.le_of_ble_eq_true rfl, Nat.le_of_ble_eq_true rfl⟩, rfl, rfl⟩ (Nat.le_of_ble_eq_true rfl) dX5_isShownSo_69 (fun _ σ23 => ?_)
          refine go_iinc C (x9 + 1) 4 [(4, .int (x9 + 1)), (3, .int x21), (0, .ref (fh_ad E k1)), (1, .int a2), (2, .int a3)] rfl rfl rfl (by decide) dX5_isShownSo_72 ?_
          refine go_goto C 16 dX5_isShownSo_75 rfl ?_
          refine go_lv [2, 3, 4, 1, 0] (lv' := [(0, .ref (fh_ad E k1)), (1, .int a2), (2, .int a3), (3, .int x21), (4, .int (x9 + 1))]) rfl ?_
          exact hr11 x21 (x9 + 1) σ23
        refine go_jn (fun (j26 : fh_S → Option (Int32 × fh_S)) => ∀ (σ25 : fh_S), fh_Go E M 6 fh_vI 62 [(0, .ref (fh_ad E k1)), (1, .int a2), (2, .int a3), (4, .int x9)] [] σ25 (j26 σ25)) ?_ (fun j26 hj26 => ?_)
        · intro σ25
          refine go_iconst C (1 : Int32) dX5_isShownSo_62 rfl ?_
          refine go_goto C 67 dX5_isShownSo_63 rfl ?_
          exact hj24 ((1 : Int32)) σ25
        refine go_icmp_eq (tgt := 62) C dX5_isShownSo_48 rfl (fun _ => ?_) (fun _ => ?_)
        · refine go_lv [1, 2, 3, 5] (lv' := [(0, .ref (fh_ad E k1)), (1, .int a2), (2, .int a3), (4, .int x9)]) rfl ?_
          exact hj26 σ10
        · refine go_iload C 0 rfl dX5_isShownSo_51 ?_
          refine go_aload_n C 1 rfl rfl dX5_isShownSo_53 ?_
          refine go_iload_n C 3 rfl rfl dX5_isShownSo_54 ?_
          refine go_iconst C (1 : Int32) dX5_isShownSo_55 rfl ?_
          refine go_callVI C (st := [.int v20]) [.int a3, .int ((1 : Int32))] (m_X5_dialIs E _ hok k1 a3 ((1 : Int32)) σ10) (fun _ h => fh_ob_ok h) rfl rfl ⟨q_849, q_851, qs_24, q_6, q_852⟩ pd_X5_dialIs rfl ⟨⟨Nat.le_of_ble_eq_true rfl, Nat.le_of_ble_eq_true rfl⟩, rfl, rfl⟩ (Nat.le_of_ble_eq_true rfl) dX5_isShownSo_56 (fun r28 σ27 => ?_)
          refine go_icmp_ne (tgt := 66) C dX5_isShownSo_59 rfl (fun _ => ?_) (fun _ => ?_)
          · refine go_iconst C (0 : Int32) dX5_isShownSo_66 rfl ?_
            refine go_lv [1, 2, 3, 5] (lv' := [(0, .ref (fh_ad E k1)), (1, .int a2), (2, .int a3), (4, .int x9)]) rfl ?_
            exact hj24 ((0 : Int32)) σ27
          · refine go_lv [1, 2, 3, 5] (lv' := [(0, .ref (fh_ad E k1)), (1, .int a2), (2, .int a3), (4, .int x9)]) rfl ?_
            exact hj26 σ27
theorem m_X5_isShownSo (E : fh_E) (l : Launch) (hok : fh_ok E) (k1 : Nat) (a2 : Int32) (a3 : Int32) (σ4 : fh_S) : fh_Met E l yX5_isShownSo cX5_isShownSo 6 ((some FieldType.boolean)) rm_X5_isShownSo fh_vI [.ref (fh_ad E k1), .int a2, .int a3] σ4 (f_X5_isShownSo k1 a2 a3 σ4) := fh_met hok (by decide +kernel) (Nat.le_of_ble_eq_true rfl) (fun M _ C Hr => g_X5_isShownSo C Hr k1 a2 a3 σ4)
def f_X5_fitting_J48 (r12 : Int32 → Int32 → fh_S → Option (Int32 × fh_S)) (x9 : Int32) (x10 : Int32) : Int32 → fh_S → Option (Int32 × fh_S) := fun x19 σ20 => r12 (x9 ||| x19) (x10 + 1) σ20
def f_X5_fitting_B14 (a5 : Int32) (k1 : Nat) (a4 : Int32) (v8 : Int32) (a2 : Int32) (a3 : Int32) (r12 : Int32 → Int32 → fh_S → Option (Int32 × fh_S)) : Int32 → Int32 → fh_S → Option (Int32 × fh_S) := fun x9 x10 σ11 => if a5 ≤ x10 then (fh_gr 5 k1 0).bind fun k13 => (fh_st σ11 k13 a4 v8).bind fun σ14 => some (x9, σ14) else (fh_gr 5 k1 0).bind fun k15 => (fh_st σ11 k15 a4 x10).bind fun σ16 => fh_cb (f_X5_isShownSo k1 a2 a3 σ16) fun r18 σ17 => fh_jn (f_X5_fitting_J48 r12 x9 x10) (fun j21 => if r18 = 0 then j21 ((0 : Int32)) σ17 else j21 (((1 : Int32)) <<< (x10 &&& 31)) σ17)
def f_X5_fitting (k1 : Nat) (a2 : Int32) (a3 : Int32) (a4 : Int32) (a5 : Int32) (σ6 : fh_S) : Option (Int32 × fh_S) := fh_ob 5 k1 ((fh_gr 5 k1 0).bind fun k7 => (fh_ld σ6 k7 a4).bind fun v8 => fh_fx (ρ := Int32 → Int32 → fh_S → Option (Int32 × fh_S)) (fun _ _ _ => none) (f_X5_fitting_B14 a5 k1 a4 v8 a2 a3) fh_fu ((0 : Int32)) ((0 : Int32)) σ6)
abbrev rm_X5_fitting : Room := { frames := 7, cells := 0, slots := 0, locals := 157 }
theorem pd_X5_fitting : yX5_fitting.cls ≠ "java/lang/invoke/MethodHandle" ∧ yX5_fitting.cls ≠ "java/lang/invoke/VarHandle" ∧ (parseMethodDescriptor yX5_fitting.desc).map (fun d => d.parameters.length) = some 4 := by decide +kernel
theorem dX5_fitting_0 : decode cX5_fitting 0 = .ok (.aload_n 0, 1) := by decide +kernel
theorem dX5_fitting_1 : decode cX5_fitting 1 = .ok (.getfield 9, 3) := by decide +kernel
theorem dX5_fitting_4 : decode cX5_fitting 4 = .ok (.iload_n 3, 1) := by decide +kernel
theorem dX5_fitting_5 : decode cX5_fitting 5 = .ok (.iaload, 1) := by decide +kernel
theorem dX5_fitting_6 : decode cX5_fitting 6 = .ok (.istore 5, 2) := by decide +kernel
theorem dX5_fitting_8 : decode cX5_fitting 8 = .ok (.iconst 0, 1) := by decide +kernel
theorem dX5_fitting_9 : decode cX5_fitting 9 = .ok (.istore 6, 2) := by decide +kernel
theorem dX5_fitting_11 : decode cX5_fitting 11 = .ok (.iconst 0, 1) := by decide +kernel
theorem dX5_fitting_12 : decode cX5_fitting 12 = .ok (.istore 7, 2) := by decide +kernel
theorem dX5_fitting_14 : decode cX5_fitting 14 = .ok (.iload 7, 2) := by decide +kernel
theorem dX5_fitting_16 : decode cX5_fitting 16 = .ok (.iload 4, 2) := by decide +kernel
theorem dX5_fitting_18 : decode cX5_fitting 18 = .ok (.if_icmp .ge 39, 3) := by decide +kernel
theorem dX5_fitting_21 : decode cX5_fitting 21 = .ok (.aload_n 0, 1) := by decide +kernel
theorem dX5_fitting_22 : decode cX5_fitting 22 = .ok (.getfield 9, 3) := by decide +kernel
theorem dX5_fitting_25 : decode cX5_fitting 25 = .ok (.iload_n 3, 1) := by decide +kernel
theorem dX5_fitting_26 : decode cX5_fitting 26 = .ok (.iload 7, 2) := by decide +kernel
theorem dX5_fitting_28 : decode cX5_fitting 28 = .ok (.iastore, 1) := by decide +kernel
theorem dX5_fitting_29 : decode cX5_fitting 29 = .ok (.iload 6, 2) := by decide +kernel
theorem dX5_fitting_31 : decode cX5_fitting 31 = .ok (.aload_n 0, 1) := by decide +kernel
theorem dX5_fitting_32 : decode cX5_fitting 32 = .ok (.iload_n 1, 1) := by decide +kernel
theorem dX5_fitting_33 : decode cX5_fitting 33 = .ok (.iload_n 2, 1) := by decide +kernel
theorem dX5_fitting_34 : decode cX5_fitting 34 = .ok (.invokevirtual 210, 3) := by decide +kernel
theorem dX5_fitting_37 : decode cX5_fitting 37 = .ok (.ifCond .eq 10, 3) := by decide +kernel
theorem dX5_fitting_40 : decode cX5_fitting 40 = .ok (.iconst 1, 1) := by decide +kernel
theorem dX5_fitting_41 : decode cX5_fitting 41 = .ok (.iload 7, 2) := by decide +kernel
theorem dX5_fitting_43 : decode cX5_fitting 43 = .ok (.ishl, 1) := by decide +kernel
theorem dX5_fitting_44 : decode cX5_fitting 44 = .ok (.goto 4, 3) := by decide +kernel
theorem dX5_fitting_47 : decode cX5_fitting 47 = .ok (.iconst 0, 1) := by decide +kernel
theorem dX5_fitting_48 : decode cX5_fitting 48 = .ok (.ior, 1) := by decide +kernel
theorem dX5_fitting_49 : decode cX5_fitting 49 = .ok (.istore 6, 2) := by decide +kernel
theorem dX5_fitting_51 : decode cX5_fitting 51 = .ok (.iinc 7 1, 3) := by decide +kernel
theorem dX5_fitting_54 : decode cX5_fitting 54 = .ok (.goto (-40), 3) := by decide +kernel
theorem dX5_fitting_57 : decode cX5_fitting 57 = .ok (.aload_n 0, 1) := by decide +kernel
theorem dX5_fitting_58 : decode cX5_fitting 58 = .ok (.getfield 9, 3) := by decide +kernel
theorem dX5_fitting_61 : decode cX5_fitting 61 = .ok (.iload_n 3, 1) := by decide +kernel
theorem dX5_fitting_62 : decode cX5_fitting 62 = .ok (.iload 5, 2) := by decide +kernel
theorem dX5_fitting_64 : decode cX5_fitting 64 = .ok (.iastore, 1) := by decide +kernel
theorem dX5_fitting_65 : decode cX5_fitting 65 = .ok (.iload 6, 2) := by decide +kernel
theorem dX5_fitting_67 : decode cX5_fitting 67 = .ok (.ireturn, 1) := by decide +kernel
set_option maxHeartbeats 4000000 in
set_option maxRecDepth 100000 in
theorem g_X5_fitting {E : fh_E} {M : fh_M} (C : fh_Cx E M cX5_fitting 8 RX5 ((some FieldType.int)) rm_X5_fitting) (Hr : fh_Rt E M) (k1 : Nat) (a2 : Int32) (a3 : Int32) (a4 : Int32) (a5 : Int32) (σ6 : fh_S) : fh_Go E M 8 fh_vI 0 [(0, .ref (fh_ad E k1)), (1, .int a2), (2, .int a3), (3, .int a4), (4, .int a5)] [] σ6 (f_X5_fitting k1 a2 a3 a4 a5 σ6) := by
  have hok := fh_cok C
  refine go_ob ?_
  refine go_aload_n C 0 rfl rfl dX5_fitting_0 ?_
  refine go_gr (ci := 5) (j := 0) C fh_in5 rfl (by decide) rfl q_746 dX5_fitting_1 (fun k7 => ?_)
  refine go_iload_n C 3 rfl rfl dX5_fitting_4 ?_
  refine go_iald C dX5_fitting_5 (fun v8 => ?_)
  refine go_istore C [(5, .int v8), (0, .ref (fh_ad E k1)), (1, .int a2), (2, .int a3), (3, .int a4), (4, .int a5)] rfl (by decide) dX5_fitting_6 ?_
  refine go_iconst C (0 : Int32) dX5_fitting_8 rfl ?_
  refine go_istore C [(6, .int ((0 : Int32))), (5, .int v8), (0, .ref (fh_ad E k1)), (1, .int a2), (2, .int a3), (3, .int a4), (4, .int a5)] rfl (by decide) dX5_fitting_9 ?_
  refine go_iconst C (0 : Int32) dX5_fitting_11 rfl ?_
  refine go_istore C [(7, .int ((0 : Int32))), (6, .int ((0 : Int32))), (5, .int v8), (0, .ref (fh_ad E k1)), (1, .int a2), (2, .int a3), (3, .int a4), (4, .int a5)] rfl (by decide) dX5_fitting_12 ?_
  refine go_lv [3, 4, 5, 6, 7, 2, 1, 0] (lv' := [(0, .ref (fh_ad E k1)), (1, .int a2), (2, .int a3), (3, .int a4), (4, .int a5), (5, .int v8), (6, .int ((0 : Int32))), (7, .int ((0 : Int32)))]) rfl ?_
  refine go_fx (fun (r12 : Int32 → Int32 → fh_S → Option (Int32 × fh_S)) => ∀ (x9 : Int32) (x10 : Int32) (σ11 : fh_S), fh_Go E M 8 fh_vI 14 [(0, .ref (fh_ad E k1)), (1, .int a2), (2, .int a3), (3, .int a4), (4, .int a5), (5, .int v8), (6, .int x9), (7, .int x10)] [] σ11 (r12 x9 x10 σ11)) ?_ ?_ fh_fu ((0 : Int32)) ((0 : Int32)) σ6
  · intro x9 x10 σ11
    exact go_none
  · intro r12 hr12 x9 x10 σ11
    refine go_iload C 7 rfl dX5_fitting_14 ?_
    refine go_iload C 4 rfl dX5_fitting_16 ?_
    refine go_icmp_ge (tgt := 57) C dX5_fitting_18 rfl (fun _ => ?_) (fun _ => ?_)
    · refine go_aload_n C 0 rfl rfl dX5_fitting_57 ?_
      refine go_gr (ci := 5) (j := 0) C fh_in5 rfl (by decide) rfl q_746 dX5_fitting_58 (fun k13 => ?_)
      refine go_iload_n C 3 rfl rfl dX5_fitting_61 ?_
      refine go_iload C 5 rfl dX5_fitting_62 ?_
      refine go_iast C dX5_fitting_64 (fun σ14 => ?_)
      refine go_iload C 6 rfl dX5_fitting_65 ?_
      exact go_iret C Hr rfl dX5_fitting_67
    · refine go_aload_n C 0 rfl rfl dX5_fitting_21 ?_
      refine go_gr (ci := 5) (j := 0) C fh_in5 rfl (by decide) rfl q_746 dX5_fitting_22 (fun k15 => ?_)
      refine go_iload_n C 3 rfl rfl dX5_fitting_25 ?_
      refine go_iload C 7 rfl dX5_fitting_26 ?_
      refine go_iast C dX5_fitting_28 (fun σ16 => ?_)
      refine go_iload C 6 rfl dX5_fitting_29 ?_
      refine go_aload_n C 0 rfl rfl dX5_fitting_31 ?_
      refine go_iload_n C 1 rfl rfl dX5_fitting_32 ?_
      refine go_iload_n C 2 rfl rfl dX5_fitting_33 ?_
      refine go_callVI C (st := [.int x9]) [.int a2, .int a3] (m_X5_isShownSo E _ hok k1 a2 a3 σ16) (fun _ h => fh_ob_ok h) rfl rfl ⟨q_1073, q_1075, qs_50, q_6, q_1076⟩ pd_X5_isShownSo rfl ⟨⟨Nat.le_of_ble_eq_true rfl, Nat.le_of_ble_eq_true rfl⟩, rfl, rfl⟩ (Nat.le_of_ble_eq_true rfl) dX5_fitting_34 (fun r18 σ17 => ?_)
      refine go_jn (fun (j21 : Int32 → fh_S → Option (Int32 × fh_S)) => ∀ (x19 : Int32) (σ20 : fh_S), fh_Go E M 8 fh_vI 48 [(0, .ref (fh_ad E k1)), (1, .int a2), (2, .int a3), (3, .int a4), (4, .int a5), (5, .int v8), (7, .int x10)] [.int x19, .int x9] σ20 (j21 x19 σ20)) ?_ (fun j21 hj21 => ?_)
      · intro x19 σ20
        refine go_ior C dX5_fitting_48 ?_
        refine go_istore C [(6, .int (x9 ||| x19)), (0, .ref (fh_ad E k1)), (1, .int a2), (2, .int a3), (3, .int a4), (4, .int a5), (5, .int v8), (7, .int x10)] rfl (by decide) dX5_fitting_49 ?_
        refine go_iinc C (x10 + 1) 7 [(7, .int (x10 + 1)), (6, .int (x9 ||| x19)), (0, .ref (fh_ad E k1)), (1, .int a2), (2, .int a3), (3, .int a4), (4, .int a5), (5, .int v8)] rfl rfl rfl (by decide) dX5_fitting_51 ?_
        refine go_goto C 14 dX5_fitting_54 rfl ?_
        refine go_lv [2, 3, 4, 5, 6, 7, 1, 0] (lv' := [(0, .ref (fh_ad E k1)), (1, .int a2), (2, .int a3), (3, .int a4), (4, .int a5), (5, .int v8), (6, .int (x9 ||| x19)), (7, .int (x10 + 1))]) rfl ?_
        exact hr12 (x9 ||| x19) (x10 + 1) σ20
      refine go_if_eq (tgt := 47) C dX5_fitting_37 rfl (fun _ => ?_) (fun _ => ?_)
      · refine go_iconst C (0 : Int32) dX5_fitting_47 rfl ?_
        refine go_lv [0, 1, 2, 3, 4, 5, 7] (lv' := [(0, .ref (fh_ad E k1)), (1, .int a2), (2, .int a3), (3, .int a4), (4, .int a5), (5, .int v8), (7, .int x10)]) rfl ?_
        exact hj21 ((0 : Int32)) σ17
      · refine go_iconst C (1 : Int32) dX5_fitting_40 rfl ?_
        refine go_iload C 7 rfl dX5_fitting_41 ?_
        refine go_ishl C dX5_fitting_43 ?_
        refine go_goto C 48 dX5_fitting_44 rfl ?_
        refine go_lv [0, 1, 2, 3, 4, 5, 7] (lv' := [(0, .ref (fh_ad E k1)), (1, .int a2), (2, .int a3), (3, .int a4), (4, .int a5), (5, .int v8), (7, .int x10)]) rfl ?_
        exact hj21 (((1 : Int32)) <<< (x10 &&& 31)) σ17
theorem m_X5_fitting (E : fh_E) (l : Launch) (hok : fh_ok E) (k1 : Nat) (a2 : Int32) (a3 : Int32) (a4 : Int32) (a5 : Int32) (σ6 : fh_S) : fh_Met E l yX5_fitting cX5_fitting 8 ((some FieldType.int)) rm_X5_fitting fh_vI [.ref (fh_ad E k1), .int a2, .int a3, .int a4, .int a5] σ6 (f_X5_fitting k1 a2 a3 a4 a5 σ6) := fh_met hok (by decide +kernel) (Nat.le_of_ble_eq_true rfl) (fun M _ C Hr => g_X5_fitting C Hr k1 a2 a3 a4 a5 σ6)
def f_X5_masters_J35 (k1 : Nat) : Int32 → fh_S → Option (Int32 × fh_S) := fun x10 σ11 => fh_cb (f_X5_finding k1 x10 σ11) fun r13 σ12 => some (r13, σ12)
def f_X5_masters_J16 (k1 : Nat) (a2 : Int32) : fh_S → Option (Int32 × fh_S) := fun σ7 => fh_cb (f_X5_lacks k1 a2 σ7) fun r9 σ8 => fh_jn (f_X5_masters_J35 k1) (fun j14 => if r9 = 0 then j14 ((-1000001 : Int32)) σ8 else fh_cb (f_X5_lacks k1 a2 σ8) fun r16 σ15 => j14 r16 σ15)
def f_X5_masters (k1 : Nat) (a2 : Int32) (a3 : Int32) (σ4 : fh_S) : Option (Int32 × fh_S) := fh_ob 5 k1 (fh_cb (f_X5_lacks k1 a2 σ4) fun r6 σ5 => fh_jn (f_X5_masters_J16 k1 a2) (fun j17 => if r6 = 0 then fh_cb (f_X5_isDial k1 a3 σ5) fun r19 σ18 => if r19 = 0 then j17 σ18 else fh_cb (f_X5_at a3 ((2 : Int32)) σ18) fun r21 σ20 => (fh_gr 5 k1 0).bind fun k22 => (fh_ld σ20 k22 ((1 : Int32))).bind fun v23 => fh_cb (f_X5_fitting k1 a2 a3 r21 v23 σ20) fun r25 σ24 => some (r25, σ24) else j17 σ5))
abbrev rm_X5_masters : Room := { frames := 8, cells := 0, slots := 0, locals := 184 }
theorem pd_X5_masters : yX5_masters.cls ≠ "java/lang/invoke/MethodHandle" ∧ yX5_masters.cls ≠ "java/lang/invoke/VarHandle" ∧ (parseMethodDescriptor yX5_masters.desc).map (fun d => d.parameters.length) = some 2 := by decide +kernel
theorem dX5_masters_0 : decode cX5_masters 0 = .ok (.aload_n 0, 1) := by decide +kernel
theorem dX5_masters_1 : decode cX5_masters 1 = .ok (.iload_n 1, 1) := by decide +kernel
theorem dX5_masters_2 : decode cX5_masters 2 = .ok (.invokevirtual 213, 3) := by decide +kernel
theorem dX5_masters_5 : decode cX5_masters 5 = .ok (.ifCond .ne 11, 3) := by decide +kernel
theorem dX5_masters_8 : decode cX5_masters 8 = .ok (.aload_n 0, 1) := by decide +kernel
theorem dX5_masters_9 : decode cX5_masters 9 = .ok (.iload_n 2, 1) := by decide +kernel
theorem dX5_masters_10 : decode cX5_masters 10 = .ok (.invokevirtual 112, 3) := by decide +kernel
theorem dX5_masters_13 : decode cX5_masters 13 = .ok (.ifCond .ne 26, 3) := by decide +kernel
theorem dX5_masters_16 : decode cX5_masters 16 = .ok (.aload_n 0, 1) := by decide +kernel
theorem dX5_masters_17 : decode cX5_masters 17 = .ok (.aload_n 0, 1) := by decide +kernel
theorem dX5_masters_18 : decode cX5_masters 18 = .ok (.iload_n 1, 1) := by decide +kernel
theorem dX5_masters_19 : decode cX5_masters 19 = .ok (.invokevirtual 213, 3) := by decide +kernel
theorem dX5_masters_22 : decode cX5_masters 22 = .ok (.ifCond .eq 11, 3) := by decide +kernel
theorem dX5_masters_25 : decode cX5_masters 25 = .ok (.aload_n 0, 1) := by decide +kernel
theorem dX5_masters_26 : decode cX5_masters 26 = .ok (.iload_n 1, 1) := by decide +kernel
theorem dX5_masters_27 : decode cX5_masters 27 = .ok (.invokevirtual 213, 3) := by decide +kernel
theorem dX5_masters_30 : decode cX5_masters 30 = .ok (.goto 5, 3) := by decide +kernel
theorem dX5_masters_33 : decode cX5_masters 33 = .ok (.ldc 63, 2) := by decide +kernel
theorem dX5_masters_35 : decode cX5_masters 35 = .ok (.invokevirtual 69, 3) := by decide +kernel
theorem dX5_masters_38 : decode cX5_masters 38 = .ok (.ireturn, 1) := by decide +kernel
theorem dX5_masters_39 : decode cX5_masters 39 = .ok (.aload_n 0, 1) := by decide +kernel
theorem dX5_masters_40 : decode cX5_masters 40 = .ok (.iload_n 1, 1) := by decide +kernel
theorem dX5_masters_41 : decode cX5_masters 41 = .ok (.iload_n 2, 1) := by decide +kernel
theorem dX5_masters_42 : decode cX5_masters 42 = .ok (.iload_n 2, 1) := by decide +kernel
theorem dX5_masters_43 : decode cX5_masters 43 = .ok (.iconst 2, 1) := by decide +kernel
theorem dX5_masters_44 : decode cX5_masters 44 = .ok (.invokestatic 77, 3) := by decide +kernel
theorem dX5_masters_47 : decode cX5_masters 47 = .ok (.aload_n 0, 1) := by decide +kernel
theorem dX5_masters_48 : decode cX5_masters 48 = .ok (.getfield 9, 3) := by decide +kernel
theorem dX5_masters_51 : decode cX5_masters 51 = .ok (.iconst 1, 1) := by decide +kernel
theorem dX5_masters_52 : decode cX5_masters 52 = .ok (.iaload, 1) := by decide +kernel
theorem dX5_masters_53 : decode cX5_masters 53 = .ok (.invokevirtual 216, 3) := by decide +kernel
theorem dX5_masters_56 : decode cX5_masters 56 = .ok (.ireturn, 1) := by decide +kernel
set_option maxHeartbeats 4000000 in
set_option maxRecDepth 100000 in
theorem g_X5_masters {E : fh_E} {M : fh_M} (C : fh_Cx E M cX5_masters 3 RX5 ((some FieldType.int)) rm_X5_masters) (Hr : fh_Rt E M) (k1 : Nat) (a2 : Int32) (a3 : Int32) (σ4 : fh_S) : fh_Go E M 3 fh_vI 0 [(0, .ref (fh_ad E k1)), (1, .int a2), (2, .int a3)] [] σ4 (f_X5_masters k1 a2 a3 σ4) := by
  have hok := fh_cok C
  refine go_ob ?_
  refine go_aload_n C 0 rfl rfl dX5_masters_0 ?_
  refine go_iload_n C 1 rfl rfl dX5_masters_1 ?_
  refine go_callVI C (st := []) [.int a2] (m_X5_lacks E _ hok k1 a2 σ4) (fun _ h => fh_ob_ok h) rfl rfl ⟨q_1061, q_1063, qs_48, q_6, q_1064⟩ pd_X5_lacks rfl ⟨⟨Nat.le_of_ble_eq_true rfl, Nat.le_of_ble_eq_true rfl⟩, rfl, rfl⟩ (Nat.le_of_ble_eq_true rfl) dX5_masters_2 (fun r6 σ5 => ?_)
  refine go_jn (fun (j17 : fh_S → Option (Int32 × fh_S)) => ∀ (σ7 : fh_S), fh_Go E M 3 fh_vI 16 [(0, .ref (fh_ad E k1)), (1, .int a2)] [] σ7 (j17 σ7)) ?_ (fun j17 hj17 => ?_)
  · intro σ7
    refine go_aload_n C 0 rfl rfl dX5_masters_16 ?_
    refine go_aload_n C 0 rfl rfl dX5_masters_17 ?_
    refine go_iload_n C 1 rfl rfl dX5_masters_18 ?_
    refine go_callVI C (st := [.ref (fh_ad E k1)]) [.int a2] (m_X5_lacks E _ hok k1 a2 σ7) (fun _ h => fh_ob_ok h) rfl rfl ⟨q_1061, q_1063, qs_48, q_6, q_1064⟩ pd_X5_lacks rfl ⟨⟨Nat.le_of_ble_eq_true rfl, Nat.le_of_ble_eq_true rfl⟩, rfl, rfl⟩ (Nat.le_of_ble_eq_true rfl) dX5_masters_19 (fun r9 σ8 => ?_)
    refine go_jn (fun (j14 : Int32 → fh_S → Option (Int32 × fh_S)) => ∀ (x10 : Int32) (σ11 : fh_S), fh_Go E M 3 fh_vI 35 [] [.int x10, .ref (fh_ad E k1)] σ11 (j14 x10 σ11)) ?_ (fun j14 hj14 => ?_)
    · intro x10 σ11
      refine go_callVI C (st := []) [.int x10] (m_X5_finding E _ hok k1 x10 σ11) (fun _ h => fh_ob_ok h) rfl rfl ⟨q_821, q_823, qs_19, q_6, q_824⟩ pd_X5_finding rfl ⟨⟨Nat.le_of_ble_eq_true rfl, Nat.le_of_ble_eq_true rfl⟩, rfl, rfl⟩ (Nat.le_of_ble_eq_true rfl) dX5_masters_35 (fun r13 σ12 => ?_)
      exact go_iret C Hr rfl dX5_masters_38
    refine go_if_eq (tgt := 33) C dX5_masters_22 rfl (fun _ => ?_) (fun _ => ?_)
    · refine go_ldc C q_820 dX5_masters_33 ?_
      refine go_lv [] (lv' := []) rfl ?_
      exact hj14 ((-1000001 : Int32)) σ8
    · refine go_aload_n C 0 rfl rfl dX5_masters_25 ?_
      refine go_iload_n C 1 rfl rfl dX5_masters_26 ?_
      refine go_callVI C (st := [.ref (fh_ad E k1)]) [.int a2] (m_X5_lacks E _ hok k1 a2 σ8) (fun _ h => fh_ob_ok h) rfl rfl ⟨q_1061, q_1063, qs_48, q_6, q_1064⟩ pd_X5_lacks rfl ⟨⟨Nat.le_of_ble_eq_true rfl, Nat.le_of_ble_eq_true rfl⟩, rfl, rfl⟩ (Nat.le_of_ble_eq_true rfl) dX5_masters_27 (fun r16 σ15 => ?_)
      refine go_goto C 35 dX5_masters_30 rfl ?_
      refine go_lv [] (lv' := []) rfl ?_
      exact hj14 r16 σ15
  refine go_if_ne (tgt := 16) C dX5_masters_5 rfl (fun _ => ?_) (fun _ => ?_)
  · refine go_lv [0, 1] (lv' := [(0, .ref (fh_ad E k1)), (1, .int a2)]) rfl ?_
    exact hj17 σ5
  · refine go_aload_n C 0 rfl rfl dX5_masters_8 ?_
    refine go_iload_n C 2 rfl rfl dX5_masters_9 ?_
    refine go_callVI C (st := []) [.int a3] (m_X5_isDial E _ hok k1 a3 σ5) (fun _ h => fh_ob_ok h) rfl rfl ⟨q_837, q_839, qs_21, q_6, q_840⟩ pd_X5_isDial rfl ⟨⟨Nat.le_of_ble_eq_true rfl, Nat.le_of_ble_eq_true rfl⟩, rfl, rfl⟩ (Nat.le_of_ble_eq_true rfl) dX5_masters_10 (fun r19 σ18 => ?_)
    refine go_if_ne (tgt := 39) C dX5_masters_13 rfl (fun _ => ?_) (fun _ => ?_)
    · refine go_aload_n C 0 rfl rfl dX5_masters_39 ?_
      refine go_iload_n C 1 rfl rfl dX5_masters_40 ?_
      refine go_iload_n C 2 rfl rfl dX5_masters_41 ?_
      refine go_iload_n C 2 rfl rfl dX5_masters_42 ?_
      refine go_iconst C (2 : Int32) dX5_masters_43 rfl ?_
      refine go_callSI C (st := [.int a3, .int a2, .ref (fh_ad E k1)]) [.int a3, .int ((2 : Int32))] (m_X5_at E _ hok a3 ((2 : Int32)) σ18) rfl ⟨q_830, q_831, q_6, q_832⟩ pd_X5_at rfl ⟨⟨Nat.le_of_ble_eq_true rfl, Nat.le_of_ble_eq_true rfl⟩, rfl, rfl⟩ (Nat.le_of_ble_eq_true rfl) dX5_masters_44 (fun r21 σ20 => ?_)
      refine go_aload_n C 0 rfl rfl dX5_masters_47 ?_
      refine go_gr (ci := 5) (j := 0) C fh_in5 rfl (by decide) rfl q_746 dX5_masters_48 (fun k22 => ?_)
      refine go_iconst C (1 : Int32) dX5_masters_51 rfl ?_
      refine go_iald C dX5_masters_52 (fun v23 => ?_)
      refine go_callVI C (st := []) [.int a2, .int a3, .int r21, .int v23] (m_X5_fitting E _ hok k1 a2 a3 r21 v23 σ20) (fun _ h => fh_ob_ok h) rfl rfl ⟨q_1069, q_1071, qs_49, q_6, q_1072⟩ pd_X5_fitting rfl ⟨⟨Nat.le_of_ble_eq_true rfl, Nat.le_of_ble_eq_true rfl⟩, rfl, rfl⟩ (Nat.le_of_ble_eq_true rfl) dX5_masters_53 (fun r25 σ24 => ?_)
      exact go_iret C Hr rfl dX5_masters_56
    · refine go_lv [0, 1] (lv' := [(0, .ref (fh_ad E k1)), (1, .int a2)]) rfl ?_
      exact hj17 σ18
theorem m_X5_masters (E : fh_E) (l : Launch) (hok : fh_ok E) (k1 : Nat) (a2 : Int32) (a3 : Int32) (σ4 : fh_S) : fh_Met E l yX5_masters cX5_masters 3 ((some FieldType.int)) rm_X5_masters fh_vI [.ref (fh_ad E k1), .int a2, .int a3] σ4 (f_X5_masters k1 a2 a3 σ4) := fh_met hok (by decide +kernel) (Nat.le_of_ble_eq_true rfl) (fun M _ C Hr => g_X5_masters C Hr k1 a2 a3 σ4)
def f_X5_kinds_J35 (k1 : Nat) : Int32 → fh_S → Option (Int32 × fh_S) := fun x10 σ11 => fh_cb (f_X5_finding k1 x10 σ11) fun r13 σ12 => some (r13, σ12)
def f_X5_kinds_J16 (k1 : Nat) (a2 : Int32) : fh_S → Option (Int32 × fh_S) := fun σ7 => fh_cb (f_X5_lacks k1 a2 σ7) fun r9 σ8 => fh_jn (f_X5_kinds_J35 k1) (fun j14 => if r9 = 0 then j14 ((-1000001 : Int32)) σ8 else fh_cb (f_X5_lacks k1 a2 σ8) fun r16 σ15 => j14 r16 σ15)
def f_X5_kinds (k1 : Nat) (a2 : Int32) (a3 : Int32) (σ4 : fh_S) : Option (Int32 × fh_S) := fh_ob 5 k1 (fh_cb (f_X5_lacks k1 a2 σ4) fun r6 σ5 => fh_jn (f_X5_kinds_J16 k1 a2) (fun j17 => if r6 = 0 then fh_cb (f_X5_isDial k1 a3 σ5) fun r19 σ18 => if r19 = 0 then j17 σ18 else fh_cb (f_X5_at a3 ((0 : Int32)) σ18) fun r21 σ20 => fh_cb (f_X5_fitting k1 a2 a3 r21 ((7 : Int32)) σ20) fun r23 σ22 => some (r23, σ22) else j17 σ5))
abbrev rm_X5_kinds : Room := { frames := 8, cells := 0, slots := 0, locals := 184 }
theorem pd_X5_kinds : yX5_kinds.cls ≠ "java/lang/invoke/MethodHandle" ∧ yX5_kinds.cls ≠ "java/lang/invoke/VarHandle" ∧ (parseMethodDescriptor yX5_kinds.desc).map (fun d => d.parameters.length) = some 2 := by decide +kernel
theorem dX5_kinds_0 : decode cX5_kinds 0 = .ok (.aload_n 0, 1) := by decide +kernel
theorem dX5_kinds_1 : decode cX5_kinds 1 = .ok (.iload_n 1, 1) := by decide +kernel
theorem dX5_kinds_2 : decode cX5_kinds 2 = .ok (.invokevirtual 213, 3) := by decide +kernel
theorem dX5_kinds_5 : decode cX5_kinds 5 = .ok (.ifCond .ne 11, 3) := by decide +kernel
theorem dX5_kinds_8 : decode cX5_kinds 8 = .ok (.aload_n 0, 1) := by decide +kernel
theorem dX5_kinds_9 : decode cX5_kinds 9 = .ok (.iload_n 2, 1) := by decide +kernel
theorem dX5_kinds_10 : decode cX5_kinds 10 = .ok (.invokevirtual 112, 3) := by decide +kernel
theorem dX5_kinds_13 : decode cX5_kinds 13 = .ok (.ifCond .ne 26, 3) := by decide +kernel
theorem dX5_kinds_16 : decode cX5_kinds 16 = .ok (.aload_n 0, 1) := by decide +kernel
theorem dX5_kinds_17 : decode cX5_kinds 17 = .ok (.aload_n 0, 1) := by decide +kernel
theorem dX5_kinds_18 : decode cX5_kinds 18 = .ok (.iload_n 1, 1) := by decide +kernel
theorem dX5_kinds_19 : decode cX5_kinds 19 = .ok (.invokevirtual 213, 3) := by decide +kernel
theorem dX5_kinds_22 : decode cX5_kinds 22 = .ok (.ifCond .eq 11, 3) := by decide +kernel
theorem dX5_kinds_25 : decode cX5_kinds 25 = .ok (.aload_n 0, 1) := by decide +kernel
theorem dX5_kinds_26 : decode cX5_kinds 26 = .ok (.iload_n 1, 1) := by decide +kernel
theorem dX5_kinds_27 : decode cX5_kinds 27 = .ok (.invokevirtual 213, 3) := by decide +kernel
theorem dX5_kinds_30 : decode cX5_kinds 30 = .ok (.goto 5, 3) := by decide +kernel
theorem dX5_kinds_33 : decode cX5_kinds 33 = .ok (.ldc 63, 2) := by decide +kernel
theorem dX5_kinds_35 : decode cX5_kinds 35 = .ok (.invokevirtual 69, 3) := by decide +kernel
theorem dX5_kinds_38 : decode cX5_kinds 38 = .ok (.ireturn, 1) := by decide +kernel
theorem dX5_kinds_39 : decode cX5_kinds 39 = .ok (.aload_n 0, 1) := by decide +kernel
theorem dX5_kinds_40 : decode cX5_kinds 40 = .ok (.iload_n 1, 1) := by decide +kernel
theorem dX5_kinds_41 : decode cX5_kinds 41 = .ok (.iload_n 2, 1) := by decide +kernel
theorem dX5_kinds_42 : decode cX5_kinds 42 = .ok (.iload_n 2, 1) := by decide +kernel
theorem dX5_kinds_43 : decode cX5_kinds 43 = .ok (.iconst 0, 1) := by decide +kernel
theorem dX5_kinds_44 : decode cX5_kinds 44 = .ok (.invokestatic 77, 3) := by decide +kernel
theorem dX5_kinds_47 : decode cX5_kinds 47 = .ok (.bipush 7, 2) := by decide +kernel
theorem dX5_kinds_49 : decode cX5_kinds 49 = .ok (.invokevirtual 216, 3) := by decide +kernel
theorem dX5_kinds_52 : decode cX5_kinds 52 = .ok (.ireturn, 1) := by decide +kernel
set_option maxHeartbeats 4000000 in
set_option maxRecDepth 100000 in
theorem g_X5_kinds {E : fh_E} {M : fh_M} (C : fh_Cx E M cX5_kinds 3 RX5 ((some FieldType.int)) rm_X5_kinds) (Hr : fh_Rt E M) (k1 : Nat) (a2 : Int32) (a3 : Int32) (σ4 : fh_S) : fh_Go E M 3 fh_vI 0 [(0, .ref (fh_ad E k1)), (1, .int a2), (2, .int a3)] [] σ4 (f_X5_kinds k1 a2 a3 σ4) := by
  have hok := fh_cok C
  refine go_ob ?_
  refine go_aload_n C 0 rfl rfl dX5_kinds_0 ?_
  refine go_iload_n C 1 rfl rfl dX5_kinds_1 ?_
  refine go_callVI C (st := []) [.int a2] (m_X5_lacks E _ hok k1 a2 σ4) (fun _ h => fh_ob_ok h) rfl rfl ⟨q_1061, q_1063, qs_48, q_6, q_1064⟩ pd_X5_lacks rfl ⟨⟨Nat.le_of_ble_eq_true rfl, Nat.le_of_ble_eq_true rfl⟩, rfl, rfl⟩ (Nat.le_of_ble_eq_true rfl) dX5_kinds_2 (fun r6 σ5 => ?_)
  refine go_jn (fun (j17 : fh_S → Option (Int32 × fh_S)) => ∀ (σ7 : fh_S), fh_Go E M 3 fh_vI 16 [(0, .ref (fh_ad E k1)), (1, .int a2)] [] σ7 (j17 σ7)) ?_ (fun j17 hj17 => ?_)
  · intro σ7
    refine go_aload_n C 0 rfl rfl dX5_kinds_16 ?_
    refine go_aload_n C 0 rfl rfl dX5_kinds_17 ?_
    refine go_iload_n C 1 rfl rfl dX5_kinds_18 ?_
    refine go_callVI C (st := [.ref (fh_ad E k1)]) [.int a2] (m_X5_lacks E _ hok k1 a2 σ7) (fun _ h => fh_ob_ok h) rfl rfl ⟨q_1061, q_1063, qs_48, q_6, q_1064⟩ pd_X5_lacks rfl ⟨⟨Nat.le_of_ble_eq_true rfl, Nat.le_of_ble_eq_true rfl⟩, rfl, rfl⟩ (Nat.le_of_ble_eq_true rfl) dX5_kinds_19 (fun r9 σ8 => ?_)
    refine go_jn (fun (j14 : Int32 → fh_S → Option (Int32 × fh_S)) => ∀ (x10 : Int32) (σ11 : fh_S), fh_Go E M 3 fh_vI 35 [] [.int x10, .ref (fh_ad E k1)] σ11 (j14 x10 σ11)) ?_ (fun j14 hj14 => ?_)
    · intro x10 σ11
      refine go_callVI C (st := []) [.int x10] (m_X5_finding E _ hok k1 x10 σ11) (fun _ h => fh_ob_ok h) rfl rfl ⟨q_821, q_823, qs_19, q_6, q_824⟩ pd_X5_finding rfl ⟨⟨Nat.le_of_ble_eq_true rfl, Nat.le_of_ble_eq_true rfl⟩, rfl, rfl⟩ (Nat.le_of_ble_eq_true rfl) dX5_kinds_35 (fun r13 σ12 => ?_)
      exact go_iret C Hr rfl dX5_kinds_38
    refine go_if_eq (tgt := 33) C dX5_kinds_22 rfl (fun _ => ?_) (fun _ => ?_)
    · refine go_ldc C q_820 dX5_kinds_33 ?_
      refine go_lv [] (lv' := []) rfl ?_
      exact hj14 ((-1000001 : Int32)) σ8
    · refine go_aload_n C 0 rfl rfl dX5_kinds_25 ?_
      refine go_iload_n C 1 rfl rfl dX5_kinds_26 ?_
      refine go_callVI C (st := [.ref (fh_ad E k1)]) [.int a2] (m_X5_lacks E _ hok k1 a2 σ8) (fun _ h => fh_ob_ok h) rfl rfl ⟨q_1061, q_1063, qs_48, q_6, q_1064⟩ pd_X5_lacks rfl ⟨⟨Nat.le_of_ble_eq_true rfl, Nat.le_of_ble_eq_true rfl⟩, rfl, rfl⟩ (Nat.le_of_ble_eq_true rfl) dX5_kinds_27 (fun r16 σ15 => ?_)
      refine go_goto C 35 dX5_kinds_30 rfl ?_
      refine go_lv [] (lv' := []) rfl ?_
      exact hj14 r16 σ15
  refine go_if_ne (tgt := 16) C dX5_kinds_5 rfl (fun _ => ?_) (fun _ => ?_)
  · refine go_lv [0, 1] (lv' := [(0, .ref (fh_ad E k1)), (1, .int a2)]) rfl ?_
    exact hj17 σ5
  · refine go_aload_n C 0 rfl rfl dX5_kinds_8 ?_
    refine go_iload_n C 2 rfl rfl dX5_kinds_9 ?_
    refine go_callVI C (st := []) [.int a3] (m_X5_isDial E _ hok k1 a3 σ5) (fun _ h => fh_ob_ok h) rfl rfl ⟨q_837, q_839, qs_21, q_6, q_840⟩ pd_X5_isDial rfl ⟨⟨Nat.le_of_ble_eq_true rfl, Nat.le_of_ble_eq_true rfl⟩, rfl, rfl⟩ (Nat.le_of_ble_eq_true rfl) dX5_kinds_10 (fun r19 σ18 => ?_)
    refine go_if_ne (tgt := 39) C dX5_kinds_13 rfl (fun _ => ?_) (fun _ => ?_)
    · refine go_aload_n C 0 rfl rfl dX5_kinds_39 ?_
      refine go_iload_n C 1 rfl rfl dX5_kinds_40 ?_
      refine go_iload_n C 2 rfl rfl dX5_kinds_41 ?_
      refine go_iload_n C 2 rfl rfl dX5_kinds_42 ?_
      refine go_iconst C (0 : Int32) dX5_kinds_43 rfl ?_
      refine go_callSI C (st := [.int a3, .int a2, .ref (fh_ad E k1)]) [.int a3, .int ((0 : Int32))] (m_X5_at E _ hok a3 ((0 : Int32)) σ18) rfl ⟨q_830, q_831, q_6, q_832⟩ pd_X5_at rfl ⟨⟨Nat.le_of_ble_eq_true rfl, Nat.le_of_ble_eq_true rfl⟩, rfl, rfl⟩ (Nat.le_of_ble_eq_true rfl) dX5_kinds_44 (fun r21 σ20 => ?_)
      refine go_bipush C (7 : Int32) dX5_kinds_47 rfl ?_
      refine go_callVI C (st := []) [.int a2, .int a3, .int r21, .int ((7 : Int32))] (m_X5_fitting E _ hok k1 a2 a3 r21 ((7 : Int32)) σ20) (fun _ h => fh_ob_ok h) rfl rfl ⟨q_1069, q_1071, qs_49, q_6, q_1072⟩ pd_X5_fitting rfl ⟨⟨Nat.le_of_ble_eq_true rfl, Nat.le_of_ble_eq_true rfl⟩, rfl, rfl⟩ (Nat.le_of_ble_eq_true rfl) dX5_kinds_49 (fun r23 σ22 => ?_)
      exact go_iret C Hr rfl dX5_kinds_52
    · refine go_lv [0, 1] (lv' := [(0, .ref (fh_ad E k1)), (1, .int a2)]) rfl ?_
      exact hj17 σ18
theorem m_X5_kinds (E : fh_E) (l : Launch) (hok : fh_ok E) (k1 : Nat) (a2 : Int32) (a3 : Int32) (σ4 : fh_S) : fh_Met E l yX5_kinds cX5_kinds 3 ((some FieldType.int)) rm_X5_kinds fh_vI [.ref (fh_ad E k1), .int a2, .int a3] σ4 (f_X5_kinds k1 a2 a3 σ4) := fh_met hok (by decide +kernel) (Nat.le_of_ble_eq_true rfl) (fun M _ C Hr => g_X5_kinds C Hr k1 a2 a3 σ4)
def f_X5_masterFor_J25 (k1 : Nat) : fh_S → Option (Int32 × fh_S) := fun σ8 => fh_cb (f_X5_finding k1 ((-1000001 : Int32)) σ8) fun r10 σ9 => some (r10, σ9)
def f_X5_masterFor_J115 (x19 : Int32) (r38 : Int32) (r22 : Int32 → Int32 → Int32 → fh_S → Option (Int32 × fh_S)) (x20 : Int32) : Int32 → fh_S → Option (Int32 × fh_S) := fun x39 σ40 => fh_cb (f_J9_min_7cf53 x19 r38 σ40) fun r42 σ41 => r22 x39 r42 (x20 + 1) σ41
def f_X5_masterFor_B51 (k1 : Nat) (a2 : Int32) (r17 : Int32) (a4 : Int32) (a3 : Int32) (r22 : Int32 → Int32 → Int32 → fh_S → Option (Int32 × fh_S)) : Int32 → Int32 → Int32 → fh_S → Option (Int32 × fh_S) := fun x18 x19 x20 σ21 => (fh_gr 5 k1 0).bind fun k23 => (fh_ld σ21 k23 ((1 : Int32))).bind fun v24 => if v24 ≤ x20 then (fh_gr 5 k1 0).bind fun k25 => fh_cb (f_X5_at a2 ((2 : Int32)) σ21) fun r27 σ26 => (fh_st σ26 k25 r27 r17).bind fun σ28 => some (x18, σ28) else (fh_gr 5 k1 0).bind fun k29 => fh_cb (f_X5_at a2 ((2 : Int32)) σ21) fun r31 σ30 => (fh_st σ30 k29 r31 x20).bind fun σ32 => fh_cb (f_X5_behind k1 a2 a4 ((1 : Int32)) σ32) fun r34 σ33 => fh_cb (f_X5_round (a3 - r34) σ33) fun r36 σ35 => fh_cb (f_J9_min_7cf53 r36 (((720 : Int32)) - r36) σ35) fun r38 σ37 => fh_jn (f_X5_masterFor_J115 x19 r38 r22 x20) (fun j43 => if x19 ≤ r38 then j43 x18 σ37 else j43 x20 σ37)
def f_X5_masterFor (k1 : Nat) (a2 : Int32) (a3 : Int32) (a4 : Int32) (σ5 : fh_S) : Option (Int32 × fh_S) := fh_ob 5 k1 (fh_cb (f_X5_isDial k1 a2 σ5) fun r7 σ6 => fh_jn (f_X5_masterFor_J25 k1) (fun j11 => if r7 = 0 then j11 σ6 else fh_cb (f_X5_isHour a3 σ6) fun r13 σ12 => if r13 = 0 then j11 σ12 else fh_cb (f_X5_within a4 ((0 : Int32)) ((100 : Int32)) σ12) fun r15 σ14 => if r15 = 0 then j11 σ14 else fh_cb (f_X5_dialIs k1 a2 ((2 : Int32)) σ14) fun r17 σ16 => fh_fx (ρ := Int32 → Int32 → Int32 → fh_S → Option (Int32 × fh_S)) (fun _ _ _ _ => none) (f_X5_masterFor_B51 k1 a2 r17 a4 a3) fh_fu ((0 : Int32)) ((720 : Int32)) ((0 : Int32)) σ16))
abbrev rm_X5_masterFor : Room := { frames := 8, cells := 0, slots := 0, locals := 177 }
theorem pd_X5_masterFor : yX5_masterFor.cls ≠ "java/lang/invoke/MethodHandle" ∧ yX5_masterFor.cls ≠ "java/lang/invoke/VarHandle" ∧ (parseMethodDescriptor yX5_masterFor.desc).map (fun d => d.parameters.length) = some 3 := by decide +kernel
theorem dX5_masterFor_0 : decode cX5_masterFor 0 = .ok (.aload_n 0, 1) := by decide +kernel
theorem dX5_masterFor_1 : decode cX5_masterFor 1 = .ok (.iload_n 1, 1) := by decide +kernel
theorem dX5_masterFor_2 : decode cX5_masterFor 2 = .ok (.invokevirtual 112, 3) := by decide +kernel
theorem dX5_masterFor_5 : decode cX5_masterFor 5 = .ok (.ifCond .eq 20, 3) := by decide +kernel
theorem dX5_masterFor_8 : decode cX5_masterFor 8 = .ok (.iload_n 2, 1) := by decide +kernel
theorem dX5_masterFor_9 : decode cX5_masterFor 9 = .ok (.invokestatic 118, 3) := by decide +kernel
theorem dX5_masterFor_12 : decode cX5_masterFor 12 = .ok (.ifCond .eq 13, 3) := by decide +kernel
theorem dX5_masterFor_15 : decode cX5_masterFor 15 = .ok (.iload_n 3, 1) := by decide +kernel
theorem dX5_masterFor_16 : decode cX5_masterFor 16 = .ok (.iconst 0, 1) := by decide +kernel
theorem dX5_masterFor_17 : decode cX5_masterFor 17 = .ok (.bipush 100, 2) := by decide +kernel
theorem dX5_masterFor_19 : decode cX5_masterFor 19 = .ok (.invokestatic 73, 3) := by decide +kernel
theorem dX5_masterFor_22 : decode cX5_masterFor 22 = .ok (.ifCond .ne 10, 3) := by decide +kernel
theorem dX5_masterFor_25 : decode cX5_masterFor 25 = .ok (.aload_n 0, 1) := by decide +kernel
theorem dX5_masterFor_26 : decode cX5_masterFor 26 = .ok (.ldc 63, 2) := by decide +kernel
theorem dX5_masterFor_28 : decode cX5_masterFor 28 = .ok (.invokevirtual 69, 3) := by decide +kernel
theorem dX5_masterFor_31 : decode cX5_masterFor 31 = .ok (.ireturn, 1) := by decide +kernel
theorem dX5_masterFor_32 : decode cX5_masterFor 32 = .ok (.aload_n 0, 1) := by decide +kernel
theorem dX5_masterFor_33 : decode cX5_masterFor 33 = .ok (.iload_n 1, 1) := by decide +kernel
theorem dX5_masterFor_34 : decode cX5_masterFor 34 = .ok (.iconst 2, 1) := by decide +kernel
theorem dX5_masterFor_35 : decode cX5_masterFor 35 = .ok (.invokevirtual 81, 3) := by decide +kernel
theorem dX5_masterFor_38 : decode cX5_masterFor 38 = .ok (.istore 4, 2) := by decide +kernel
theorem dX5_masterFor_40 : decode cX5_masterFor 40 = .ok (.iconst 0, 1) := by decide +kernel
theorem dX5_masterFor_41 : decode cX5_masterFor 41 = .ok (.istore 5, 2) := by decide +kernel
theorem dX5_masterFor_43 : decode cX5_masterFor 43 = .ok (.sipush 720, 3) := by decide +kernel
theorem dX5_masterFor_46 : decode cX5_masterFor 46 = .ok (.istore 6, 2) := by decide +kernel
theorem dX5_masterFor_48 : decode cX5_masterFor 48 = .ok (.iconst 0, 1) := by decide +kernel
theorem dX5_masterFor_49 : decode cX5_masterFor 49 = .ok (.istore 7, 2) := by decide +kernel
theorem dX5_masterFor_51 : decode cX5_masterFor 51 = .ok (.iload 7, 2) := by decide +kernel
theorem dX5_masterFor_53 : decode cX5_masterFor 53 = .ok (.aload_n 0, 1) := by decide +kernel
theorem dX5_masterFor_54 : decode cX5_masterFor 54 = .ok (.getfield 9, 3) := by decide +kernel
theorem dX5_masterFor_57 : decode cX5_masterFor 57 = .ok (.iconst 1, 1) := by decide +kernel
theorem dX5_masterFor_58 : decode cX5_masterFor 58 = .ok (.iaload, 1) := by decide +kernel
theorem dX5_masterFor_59 : decode cX5_masterFor 59 = .ok (.if_icmp .ge 73, 3) := by decide +kernel
theorem dX5_masterFor_62 : decode cX5_masterFor 62 = .ok (.aload_n 0, 1) := by decide +kernel
theorem dX5_masterFor_63 : decode cX5_masterFor 63 = .ok (.getfield 9, 3) := by decide +kernel
theorem dX5_masterFor_66 : decode cX5_masterFor 66 = .ok (.iload_n 1, 1) := by decide +kernel
theorem dX5_masterFor_67 : decode cX5_masterFor 67 = .ok (.iconst 2, 1) := by decide +kernel
theorem dX5_masterFor_68 : decode cX5_masterFor 68 = .ok (.invokestatic 77, 3) := by decide +kernel
theorem dX5_masterFor_71 : decode cX5_masterFor 71 = .ok (.iload 7, 2) := by decide +kernel
theorem dX5_masterFor_73 : decode cX5_masterFor 73 = .ok (.iastore, 1) := by decide +kernel
theorem dX5_masterFor_74 : decode cX5_masterFor 74 = .ok (.iload_n 2, 1) := by decide +kernel
theorem dX5_masterFor_75 : decode cX5_masterFor 75 = .ok (.aload_n 0, 1) := by decide +kernel
theorem dX5_masterFor_76 : decode cX5_masterFor 76 = .ok (.iload_n 1, 1) := by decide +kernel
theorem dX5_masterFor_77 : decode cX5_masterFor 77 = .ok (.iload_n 3, 1) := by decide +kernel
theorem dX5_masterFor_78 : decode cX5_masterFor 78 = .ok (.iconst 1, 1) := by decide +kernel
theorem dX5_masterFor_79 : decode cX5_masterFor 79 = .ok (.invokevirtual 186, 3) := by decide +kernel
theorem dX5_masterFor_82 : decode cX5_masterFor 82 = .ok (.isub, 1) := by decide +kernel
theorem dX5_masterFor_83 : decode cX5_masterFor 83 = .ok (.invokestatic 128, 3) := by decide +kernel
theorem dX5_masterFor_86 : decode cX5_masterFor 86 = .ok (.istore 8, 2) := by decide +kernel
theorem dX5_masterFor_88 : decode cX5_masterFor 88 = .ok (.iload 8, 2) := by decide +kernel
theorem dX5_masterFor_90 : decode cX5_masterFor 90 = .ok (.sipush 720, 3) := by decide +kernel
theorem dX5_masterFor_93 : decode cX5_masterFor 93 = .ok (.iload 8, 2) := by decide +kernel
theorem dX5_masterFor_95 : decode cX5_masterFor 95 = .ok (.isub, 1) := by decide +kernel
theorem dX5_masterFor_96 : decode cX5_masterFor 96 = .ok (.invokestatic 109, 3) := by decide +kernel
theorem dX5_masterFor_99 : decode cX5_masterFor 99 = .ok (.istore 8, 2) := by decide +kernel
theorem dX5_masterFor_101 : decode cX5_masterFor 101 = .ok (.iload 8, 2) := by decide +kernel
theorem dX5_masterFor_103 : decode cX5_masterFor 103 = .ok (.iload 6, 2) := by decide +kernel
theorem dX5_masterFor_105 : decode cX5_masterFor 105 = .ok (.if_icmp .ge 8, 3) := by decide +kernel
theorem dX5_masterFor_108 : decode cX5_masterFor 108 = .ok (.iload 7, 2) := by decide +kernel
theorem dX5_masterFor_110 : decode cX5_masterFor 110 = .ok (.goto 5, 3) := by decide +kernel
theorem dX5_masterFor_113 : decode cX5_masterFor 113 = .ok (.iload 5, 2) := by decide +kernel
theorem dX5_masterFor_115 : decode cX5_masterFor 115 = .ok (.istore 5, 2) := by decide +kernel
theorem dX5_masterFor_117 : decode cX5_masterFor 117 = .ok (.iload 6, 2) := by decide +kernel
theorem dX5_masterFor_119 : decode cX5_masterFor 119 = .ok (.iload 8, 2) := by decide +kernel
theorem dX5_masterFor_121 : decode cX5_masterFor 121 = .ok (.invokestatic 109, 3) := by decide +kernel
theorem dX5_masterFor_124 : decode cX5_masterFor 124 = .ok (.istore 6, 2) := by decide +kernel
theorem dX5_masterFor_126 : decode cX5_masterFor 126 = .ok (.iinc 7 1, 3) := by decide +kernel
theorem dX5_masterFor_129 : decode cX5_masterFor 129 = .ok (.goto (-78), 3) := by decide +kernel
theorem dX5_masterFor_132 : decode cX5_masterFor 132 = .ok (.aload_n 0, 1) := by decide +kernel
theorem dX5_masterFor_133 : decode cX5_masterFor 133 = .ok (.getfield 9, 3) := by decide +kernel
theorem dX5_masterFor_136 : decode cX5_masterFor 136 = .ok (.iload_n 1, 1) := by decide +kernel
theorem dX5_masterFor_137 : decode cX5_masterFor 137 = .ok (.iconst 2, 1) := by decide +kernel
theorem dX5_masterFor_138 : decode cX5_masterFor 138 = .ok (.invokestatic 77, 3) := by decide +kernel
theorem dX5_masterFor_141 : decode cX5_masterFor 141 = .ok (.iload 4, 2) := by decide +kernel
theorem dX5_masterFor_143 : decode cX5_masterFor 143 = .ok (.iastore, 1) := by decide +kernel
theorem dX5_masterFor_144 : decode cX5_masterFor 144 = .ok (.iload 5, 2) := by decide +kernel
theorem dX5_masterFor_146 : decode cX5_masterFor 146 = .ok (.ireturn, 1) := by decide +kernel
set_option maxHeartbeats 4000000 in
set_option maxRecDepth 100000 in
theorem g_X5_masterFor {E : fh_E} {M : fh_M} (C : fh_Cx E M cX5_masterFor 9 RX5 ((some FieldType.int)) rm_X5_masterFor) (Hr : fh_Rt E M) (k1 : Nat) (a2 : Int32) (a3 : Int32) (a4 : Int32) (σ5 : fh_S) : fh_Go E M 9 fh_vI 0 [(0, .ref (fh_ad E k1)), (1, .int a2), (2, .int a3), (3, .int a4)] [] σ5 (f_X5_masterFor k1 a2 a3 a4 σ5) := by
  have hok := fh_cok C
  refine go_ob ?_
  refine go_aload_n C 0 rfl rfl dX5_masterFor_0 ?_
  refine go_iload_n C 1 rfl rfl dX5_masterFor_1 ?_
  refine go_callVI C (st := []) [.int a2] (m_X5_isDial E _ hok k1 a2 σ5) (fun _ h => fh_ob_ok h) rfl rfl ⟨q_837, q_839, qs_21, q_6, q_840⟩ pd_X5_isDial rfl ⟨⟨Nat.le_of_ble_eq_true rfl, Nat.le_of_ble_eq_true rfl⟩, rfl, rfl⟩ (Nat.le_of_ble_eq_true rfl) dX5_masterFor_2 (fun r7 σ6 => ?_)
  refine go_jn (fun (j11 : fh_S → Option (Int32 × fh_S)) => ∀ (σ8 : fh_S), fh_Go E M 9 fh_vI 25 [(0, .ref (fh_ad E k1))] [] σ8 (j11 σ8)) ?_ (fun j11 hj11 => ?_)
  · intro σ8
    refine go_aload_n C 0 rfl rfl dX5_masterFor_25 ?_
    refine go_ldc C q_820 dX5_masterFor_26 ?_
    refine go_callVI C (st := []) [.int ((-1000001 : Int32))] (m_X5_finding E _ hok k1 ((-1000001 : Int32)) σ8) (fun _ h => fh_ob_ok h) rfl rfl ⟨q_821, q_823, qs_19, q_6, q_824⟩ pd_X5_finding rfl ⟨⟨Nat.le_of_ble_eq_true rfl, Nat.le_of_ble_eq_true rfl⟩, rfl, rfl⟩ (Nat.le_of_ble_eq_true rfl) dX5_masterFor_28 (fun r10 σ9 => ?_)
    exact go_iret C Hr rfl dX5_masterFor_31
  refine go_if_eq (tgt := 25) C dX5_masterFor_5 rfl (fun _ => ?_) (fun _ => ?_)
  · refine go_lv [0] (lv' := [(0, .ref (fh_ad E k1))]) rfl ?_
    exact hj11 σ6
  · refine go_iload_n C 2 rfl rfl dX5_masterFor_8 ?_
    refine go_callSI C (st := []) [.int a3] (m_X5_isHour E _ hok a3 σ6) rfl ⟨q_870, q_871, q_6, q_872⟩ pd_X5_isHour rfl ⟨⟨Nat.le_of_ble_eq_true rfl, Nat.le_of_ble_eq_true rfl⟩, rfl, rfl⟩ (Nat.le_of_ble_eq_true rfl) dX5_masterFor_9 (fun r13 σ12 => ?_)
    refine go_if_eq (tgt := 25) C dX5_masterFor_12 rfl (fun _ => ?_) (fun _ => ?_)
    · refine go_lv [0] (lv' := [(0, .ref (fh_ad E k1))]) rfl ?_
      exact hj11 σ12
    · refine go_iload_n C 3 rfl rfl dX5_masterFor_15 ?_
      refine go_iconst C (0 : Int32) dX5_masterFor_16 rfl ?_
      refine go_bipush C (100 : Int32) dX5_masterFor_17 rfl ?_
      refine go_callSI C (st := []) [.int a4, .int ((0 : Int32)), .int ((100 : Int32))] (m_X5_within E _ hok a4 ((0 : Int32)) ((100 : Int32)) σ12) rfl ⟨q_817, q_818, q_6, q_819⟩ pd_X5_within rfl ⟨⟨Nat.le_of_ble_eq_true rfl, Nat.le_of_ble_eq_true rfl⟩, rfl, rfl⟩ (Nat.le_of_ble_eq_true rfl) dX5_masterFor_19 (fun r15 σ14 => ?_)
      refine go_if_ne (tgt := 32) C dX5_masterFor_22 rfl (fun _ => ?_) (fun _ => ?_)
      · refine go_aload_n C 0 rfl rfl dX5_masterFor_32 ?_
        refine go_iload_n C 1 rfl rfl dX5_masterFor_33 ?_
        refine go_iconst C (2 : Int32) dX5_masterFor_34 rfl ?_
        refine go_callVI C (st := []) [.int a2, .int ((2 : Int32))] (m_X5_dialIs E _ hok k1 a2 ((2 : Int32)) σ14) (fun _ h => fh_ob_ok h) rfl rfl ⟨q_849, q_851, qs_24, q_6, q_852⟩ pd_X5_dialIs rfl ⟨⟨Nat.le_of_ble_eq_true rfl, Nat.le_of_ble_eq_true rfl⟩, rfl, rfl⟩ (Nat.le_of_ble_eq_true rfl) dX5_masterFor_35 (fun r17 σ16 => ?_)
        refine go_istore C [(4, .int r17), (0, .ref (fh_ad E k1)), (1, .int a2), (2, .int a3), (3, .int a4)] rfl (by decide) dX5_masterFor_38 ?_
        refine go_iconst C (0 : Int32) dX5_masterFor_40 rfl ?_
        refine go_istore C [(5, .int ((0 : Int32))), (4, .int r17), (0, .ref (fh_ad E k1)), (1, .int a2), (2, .int a3), (3, .int a4)] rfl (by decide) dX5_masterFor_41 ?_
        refine go_sipush C (720 : Int32) dX5_masterFor_43 rfl ?_
        refine go_istore C [(6, .int ((720 : Int32))), (5, .int ((0 : Int32))), (4, .int r17), (0, .ref (fh_ad E k1)), (1, .int a2), (2, .int a3), (3, .int a4)] rfl (by decide) dX5_masterFor_46 ?_
        refine go_iconst C (0 : Int32) dX5_masterFor_48 rfl ?_
        refine go_istore C [(7, .int ((0 : Int32))), (6, .int ((720 : Int32))), (5, .int ((0 : Int32))), (4, .int r17), (0, .ref (fh_ad E k1)), (1, .int a2), (2, .int a3), (3, .int a4)] rfl (by decide) dX5_masterFor_49 ?_
        refine go_lv [4, 5, 6, 7, 3, 2, 1, 0] (lv' := [(0, .ref (fh_ad E k1)), (1, .int a2), (2, .int a3), (3, .int a4), (4, .int r17), (5, .int ((0 : Int32))), (6, .int ((720 : Int32))), (7, .int ((0 : Int32)))]) rfl ?_
        refine go_fx (fun (r22 : Int32 → Int32 → Int32 → fh_S → Option (Int32 × fh_S)) => ∀ (x18 : Int32) (x19 : Int32) (x20 : Int32) (σ21 : fh_S), fh_Go E M 9 fh_vI 51 [(0, .ref (fh_ad E k1)), (1, .int a2), (2, .int a3), (3, .int a4), (4, .int r17), (5, .int x18), (6, .int x19), (7, .int x20)] [] σ21 (r22 x18 x19 x20 σ21)) ?_ ?_ fh_fu ((0 : Int32)) ((720 : Int32)) ((0 : Int32)) σ16
        · intro x18 x19 x20 σ21
          exact go_none
        · intro r22 hr22 x18 x19 x20 σ21
          refine go_iload C 7 rfl dX5_masterFor_51 ?_
          refine go_aload_n C 0 rfl rfl dX5_masterFor_53 ?_
          refine go_gr (ci := 5) (j := 0) C fh_in5 rfl (by decide) rfl q_746 dX5_masterFor_54 (fun k23 => ?_)
          refine go_iconst C (1 : Int32) dX5_masterFor_57 rfl ?_
          refine go_iald C dX5_masterFor_58 (fun v24 => ?_)
          refine go_icmp_ge (tgt := 132) C dX5_masterFor_59 rfl (fun _ => ?_) (fun _ => ?_)
          · refine go_aload_n C 0 rfl rfl dX5_masterFor_132 ?_
            refine go_gr (ci := 5) (j := 0) C fh_in5 rfl (by decide) rfl q_746 dX5_masterFor_133 (fun k25 => ?_)
            refine go_iload_n C 1 rfl rfl dX5_masterFor_136 ?_
            refine go_iconst C (2 : Int32) dX5_masterFor_137 rfl ?_
            refine go_callSI C (st := [.ref (fh_ad E k25)]) [.int a2, .int ((2 : Int32))] (m_X5_at E _ hok a2 ((2 : Int32)) σ21) rfl ⟨q_830, q_831, q_6, q_832⟩ pd_X5_at rfl ⟨⟨Nat.le_of_ble_eq_true rfl, Nat.le_of_ble_eq_true rfl⟩, rfl, rfl⟩ (Nat.le_of_ble_eq_true rfl) dX5_masterFor_138 (fun r27 σ26 => ?_)
            refine go_iload C 4 rfl dX5_masterFor_141 ?_
            refine go_iast C dX5_masterFor_143 (fun σ28 => ?_)
            refine go_iload C 5 rfl dX5_masterFor_144 ?_
            exact go_iret C Hr rfl dX5_masterFor_146
          · refine go_aload_n C 0 rfl rfl dX5_masterFor_62 ?_
            refine go_gr (ci := 5) (j := 0) C fh_in5 rfl (by decide) rfl q_746 dX5_masterFor_63 (fun k29 => ?_)
            refine go_iload_n C 1 rfl rfl dX5_masterFor_66 ?_
            refine go_iconst C (2 : Int32) dX5_masterFor_67 rfl ?_
            refine go_callSI C (st := [.ref (fh_ad E k29)]) [.int a2, .int ((2 : Int32))] (m_X5_at E _ hok a2 ((2 : Int32)) σ21) rfl ⟨q_830, q_831, q_6, q_832⟩ pd_X5_at rfl ⟨⟨Nat.le_of_ble_eq_true rfl, Nat.le_of_ble_eq_true rfl⟩, rfl, rfl⟩ (Nat.le_of_ble_eq_true rfl) dX5_masterFor_68 (fun r31 σ30 => ?_)
            refine go_iload C 7 rfl dX5_masterFor_71 ?_
            refine go_iast C dX5_masterFor_73 (fun σ32 => ?_)
            refine go_iload_n C 2 rfl rfl dX5_masterFor_74 ?_
            refine go_aload_n C 0 rfl rfl dX5_masterFor_75 ?_
            refine go_iload_n C 1 rfl rfl dX5_masterFor_76 ?_
            refine go_iload_n C 3 rfl rfl dX5_masterFor_77 ?_
            refine go_iconst C (1 : Int32) dX5_masterFor_78 rfl ?_
            refine go_callVI C (st := [.int a3]) [.int a2, .int a4, .int ((1 : Int32))] (m_X5_behind E _ hok k1 a2 a4 ((1 : Int32)) σ32) (fun _ h => fh_ob_ok h) rfl rfl ⟨q_989, q_991, qs_42, q_6, q_992⟩ pd_X5_behind rfl ⟨⟨Nat.le_of_ble_eq_true rfl, Nat.le_of_ble_eq_true rfl⟩, rfl, rfl⟩ (Nat.le_of_ble_eq_true rfl) dX5_masterFor_79 (fun r34 σ33 => ?_)
            refine go_isub C dX5_masterFor_82 ?_
            refine go_callSI C (st := []) [.int (a3 - r34)] (m_X5_round E _ hok (a3 - r34) σ33) rfl ⟨q_881, q_882, q_6, q_883⟩ pd_X5_round rfl ⟨⟨Nat.le_of_ble_eq_true rfl, Nat.le_of_ble_eq_true rfl⟩, rfl, rfl⟩ (Nat.le_of_ble_eq_true rfl) dX5_masterFor_83 (fun r36 σ35 => ?_)
            refine go_istore C [(8, .int r36), (0, .ref (fh_ad E k1)), (1, .int a2), (2, .int a3), (3, .int a4), (4, .int r17), (5, .int x18), (6, .int x19), (7, .int x20)] rfl (by decide) dX5_masterFor_86 ?_
            refine go_iload C 0 rfl dX5_masterFor_88 ?_
            refine go_sipush C (720 : Int32) dX5_masterFor_90 rfl ?_
            refine go_iload C 0 rfl dX5_masterFor_93 ?_
            refine go_isub C dX5_masterFor_95 ?_
            refine go_callSI C (st := []) [.int r36, .int (((720 : Int32)) - r36)] (m_J9_min_7cf53 E _ hok r36 (((720 : Int32)) - r36) σ35) rfl ⟨q_861, q_190, q_7, q_191⟩ pd_J9_min_7cf53 rfl ⟨⟨Nat.le_of_ble_eq_true rfl, Nat.le_of_ble_eq_true rfl⟩, rfl, rfl⟩ (Nat.le_of_ble_eq_true rfl) dX5_masterFor_96 (fun r38 σ37 => ?_)
            refine go_istore C [(8, .int r38), (0, .ref (fh_ad E k1)), (1, .int a2), (2, .int a3), (3, .int a4), (4, .int r17), (5, .int x18), (6, .int x19), (7, .int x20)] rfl (by decide) dX5_masterFor_99 ?_
            refine go_iload C 0 rfl dX5_masterFor_101 ?_
            refine go_iload C 7 rfl dX5_masterFor_103 ?_
            refine go_jn (fun (j43 : Int32 → fh_S → Option (Int32 × fh_S)) => ∀ (x39 : Int32) (σ40 : fh_S), fh_Go E M 9 fh_vI 115 [(0, .ref (fh_ad E k1)), (1, .int a2), (2, .int a3), (3, .int a4), (4, .int r17), (6, .int x19), (7, .int x20), (8, .int r38)] [.int x39] σ40 (j43 x39 σ40)) ?_ (fun j43 hj43 => ?_)
            · intro x39 σ40
              refine go_istore C [(5, .int x39), (0, .ref (fh_ad E k1)), (1, .int a2), (2, .int a3), (3, .int a4), (4, .int r17), (6, .int x19), (7, .int x20), (8, .int r38)] rfl (by decide) dX5_masterFor_115 ?_
              refine go_iload C 6 rfl dX5_masterFor_117 ?_
              refine go_iload C 8 rfl dX5_masterFor_119 ?_
              refine go_callSI C (st := []) [.int x19, .int r38] (m_J9_min_7cf53 E _ hok x19 r38 σ40) rfl ⟨q_861, q_190, q_7, q_191⟩ pd_J9_min_7cf53 rfl ⟨⟨Nat.le_of_ble_eq_true rfl, Nat.le_of_ble_eq_true rfl⟩, rfl, rfl⟩ (Nat.le_of_ble_eq_true rfl) dX5_masterFor_121 (fun r42 σ41 => ?_)
              refine go_istore C [(6, .int r42), (5, .int x39), (0, .ref (fh_ad E k1)), (1, .int a2), (2, .int a3), (3, .int a4), (4, .int r17), (7, .int x20), (8, .int r38)] rfl (by decide) dX5_masterFor_124 ?_
              refine go_iinc C (x20 + 1) 7 [(7, .int (x20 + 1)), (6, .int r42), (5, .int x39), (0, .ref (fh_ad E k1)), (1, .int a2), (2, .int a3), (3, .int a4), (4, .int r17), (8, .int r38)] rfl rfl rfl (by decide) dX5_masterFor_126 ?_
              refine go_goto C 51 dX5_masterFor_129 rfl ?_
              refine go_lv [3, 4, 5, 6, 7, 2, 1, 0] (lv' := [(0, .ref (fh_ad E k1)), (1, .int a2), (2, .int a3), (3, .int a4), (4, .int r17), (5, .int x39), (6, .int r42), (7, .int (x20 + 1))]) rfl ?_
              exact hr22 x39 r42 (x20 + 1) σ41
            refine go_icmp_ge (tgt := 113) C dX5_masterFor_105 rfl (fun _ => ?_) (fun _ => ?_)
            · refine go_iload C 6 rfl dX5_masterFor_113 ?_
              refine go_lv [1, 2, 3, 4, 5, 7, 8, 0] (lv' := [(0, .ref (fh_ad E k1)), (1, .int a2), (2, .int a3), (3, .int a4), (4, .int r17), (6, .int x19), (7, .int x20), (8, .int r38)]) rfl ?_
              exact hj43 x18 σ37
            · refine go_iload C 8 rfl dX5_masterFor_108 ?_
              refine go_goto C 115 dX5_masterFor_110 rfl ?_
              refine go_lv [1, 2, 3, 4, 5, 7, 8, 0] (lv' := [(0, .ref (fh_ad E k1)), (1, .int a2), (2, .int a3), (3, .int a4), (4, .int r17), (6, .int x19), (7, .int x20), (8, .int r38)]) rfl ?_
              exact hj43 x20 σ37
      · refine go_lv [0] (lv' := [(0, .ref (fh_ad E k1))]) rfl ?_
        exact hj11 σ14
theorem m_X5_masterFor (E : fh_E) (l : Launch) (hok : fh_ok E) (k1 : Nat) (a2 : Int32) (a3 : Int32) (a4 : Int32) (σ5 : fh_S) : fh_Met E l yX5_masterFor cX5_masterFor 9 ((some FieldType.int)) rm_X5_masterFor fh_vI [.ref (fh_ad E k1), .int a2, .int a3, .int a4] σ5 (f_X5_masterFor k1 a2 a3 a4 σ5) := fh_met hok (by decide +kernel) (Nat.le_of_ble_eq_true rfl) (fun M _ C Hr => g_X5_masterFor C Hr k1 a2 a3 a4 σ5)
def f_X5_stillWith_J71 (k22 : Nat) (r24 : Int32) (r10 : Int32 → fh_S → Option (Int32 × fh_S)) (x8 : Int32) : Int32 → fh_S → Option (Int32 × fh_S) := fun x25 σ26 => (fh_st σ26 k22 r24 x25).bind fun σ27 => r10 (x8 + 1) σ27
def f_X5_stillWith_J45 (k1 : Nat) (x8 : Int32) (r10 : Int32 → fh_S → Option (Int32 × fh_S)) : Int32 → fh_S → Option (Int32 × fh_S) := fun x20 σ21 => (fh_gr 5 k1 0).bind fun k22 => fh_cb (f_X5_at x8 ((4 : Int32)) σ21) fun r24 σ23 => fh_jn (f_X5_stillWith_J71 k22 r24 r10 x8) (fun j28 => if x20 = 0 then fh_cb (f_X5_dialIs k1 x8 ((4 : Int32)) σ23) fun r30 σ29 => j28 r30 σ29 else j28 ((1 : Int32)) σ23)
def f_X5_stillWith_J44 (j31 : Int32 → fh_S → Option (Int32 × fh_S)) : fh_S → Option (Int32 × fh_S) := fun σ32 => j31 ((0 : Int32)) σ32
def f_X5_stillWith_B13 (k1 : Nat) (a3 : Int32) (a2 : Int32) (r10 : Int32 → fh_S → Option (Int32 × fh_S)) : Int32 → fh_S → Option (Int32 × fh_S) := fun x8 σ9 => (fh_gr 5 k1 0).bind fun k11 => (fh_ld σ9 k11 ((1 : Int32))).bind fun v12 => if v12 ≤ x8 then fh_cb (f_X5_ticks k1 a3 σ9) fun _ σ13 => fh_cb (f_X5_stillNow k1 σ13) fun r15 σ14 => fh_cb (f_X5_putBack k1 r15 σ14) fun r17 σ16 => some (r17, σ16) else fh_cb (f_X5_has a2 x8 σ9) fun r19 σ18 => fh_jn (f_X5_stillWith_J45 k1 x8 r10) (fun j31 => fh_jn (f_X5_stillWith_J44 j31) (fun j33 => if r19 = 0 then j33 σ18 else fh_cb (f_X5_stops k1 x8 ((1 : Int32)) σ18) fun r35 σ34 => if r35 = 0 then j33 σ34 else j31 ((1 : Int32)) σ34))
def f_X5_stillWith (k1 : Nat) (a2 : Int32) (a3 : Int32) (σ4 : fh_S) : Option (Int32 × fh_S) := fh_ob 5 k1 ((fh_gr 5 k1 0).bind fun k5 => (fh_gr 5 k1 2).bind fun k6 => fh_cb (f_X5_copyRow k5 k6 σ4) fun _ σ7 => fh_fx (ρ := Int32 → fh_S → Option (Int32 × fh_S)) (fun _ _ => none) (f_X5_stillWith_B13 k1 a3 a2) fh_fu ((0 : Int32)) σ7)
abbrev rm_X5_stillWith : Room := { frames := 7, cells := 0, slots := 0, locals := 154 }
theorem pd_X5_stillWith : yX5_stillWith.cls ≠ "java/lang/invoke/MethodHandle" ∧ yX5_stillWith.cls ≠ "java/lang/invoke/VarHandle" ∧ (parseMethodDescriptor yX5_stillWith.desc).map (fun d => d.parameters.length) = some 2 := by decide +kernel
theorem dX5_stillWith_0 : decode cX5_stillWith 0 = .ok (.aload_n 0, 1) := by decide +kernel
theorem dX5_stillWith_1 : decode cX5_stillWith 1 = .ok (.getfield 9, 3) := by decide +kernel
theorem dX5_stillWith_4 : decode cX5_stillWith 4 = .ok (.aload_n 0, 1) := by decide +kernel
theorem dX5_stillWith_5 : decode cX5_stillWith 5 = .ok (.getfield 16, 3) := by decide +kernel
theorem dX5_stillWith_8 : decode cX5_stillWith 8 = .ok (.invokestatic 64, 3) := by decide +kernel
theorem dX5_stillWith_11 : decode cX5_stillWith 11 = .ok (.iconst 0, 1) := by decide +kernel
theorem dX5_stillWith_12 : decode cX5_stillWith 12 = .ok (.istore_n 3, 1) := by decide +kernel
theorem dX5_stillWith_13 : decode cX5_stillWith 13 = .ok (.iload_n 3, 1) := by decide +kernel
theorem dX5_stillWith_14 : decode cX5_stillWith 14 = .ok (.aload_n 0, 1) := by decide +kernel
theorem dX5_stillWith_15 : decode cX5_stillWith 15 = .ok (.getfield 9, 3) := by decide +kernel
theorem dX5_stillWith_18 : decode cX5_stillWith 18 = .ok (.iconst 1, 1) := by decide +kernel
theorem dX5_stillWith_19 : decode cX5_stillWith 19 = .ok (.iaload, 1) := by decide +kernel
theorem dX5_stillWith_20 : decode cX5_stillWith 20 = .ok (.if_icmp .ge 58, 3) := by decide +kernel
theorem dX5_stillWith_23 : decode cX5_stillWith 23 = .ok (.iload_n 1, 1) := by decide +kernel
theorem dX5_stillWith_24 : decode cX5_stillWith 24 = .ok (.iload_n 3, 1) := by decide +kernel
theorem dX5_stillWith_25 : decode cX5_stillWith 25 = .ok (.invokestatic 165, 3) := by decide +kernel
theorem dX5_stillWith_28 : decode cX5_stillWith 28 = .ok (.ifCond .eq 16, 3) := by decide +kernel
theorem dX5_stillWith_31 : decode cX5_stillWith 31 = .ok (.aload_n 0, 1) := by decide +kernel
theorem dX5_stillWith_32 : decode cX5_stillWith 32 = .ok (.iload_n 3, 1) := by decide +kernel
theorem dX5_stillWith_33 : decode cX5_stillWith 33 = .ok (.iconst 1, 1) := by decide +kernel
theorem dX5_stillWith_34 : decode cX5_stillWith 34 = .ok (.invokevirtual 131, 3) := by decide +kernel
theorem dX5_stillWith_37 : decode cX5_stillWith 37 = .ok (.ifCond .eq 7, 3) := by decide +kernel
theorem dX5_stillWith_40 : decode cX5_stillWith 40 = .ok (.iconst 1, 1) := by decide +kernel
theorem dX5_stillWith_41 : decode cX5_stillWith 41 = .ok (.goto 4, 3) := by decide +kernel
theorem dX5_stillWith_44 : decode cX5_stillWith 44 = .ok (.iconst 0, 1) := by decide +kernel
theorem dX5_stillWith_45 : decode cX5_stillWith 45 = .ok (.istore 4, 2) := by decide +kernel
theorem dX5_stillWith_47 : decode cX5_stillWith 47 = .ok (.aload_n 0, 1) := by decide +kernel
theorem dX5_stillWith_48 : decode cX5_stillWith 48 = .ok (.getfield 9, 3) := by decide +kernel
theorem dX5_stillWith_51 : decode cX5_stillWith 51 = .ok (.iload_n 3, 1) := by decide +kernel
theorem dX5_stillWith_52 : decode cX5_stillWith 52 = .ok (.iconst 4, 1) := by decide +kernel
theorem dX5_stillWith_53 : decode cX5_stillWith 53 = .ok (.invokestatic 77, 3) := by decide +kernel
theorem dX5_stillWith_56 : decode cX5_stillWith 56 = .ok (.iload 4, 2) := by decide +kernel
theorem dX5_stillWith_58 : decode cX5_stillWith 58 = .ok (.ifCond .eq 7, 3) := by decide +kernel
theorem dX5_stillWith_61 : decode cX5_stillWith 61 = .ok (.iconst 1, 1) := by decide +kernel
theorem dX5_stillWith_62 : decode cX5_stillWith 62 = .ok (.goto 9, 3) := by decide +kernel
theorem dX5_stillWith_65 : decode cX5_stillWith 65 = .ok (.aload_n 0, 1) := by decide +kernel
theorem dX5_stillWith_66 : decode cX5_stillWith 66 = .ok (.iload_n 3, 1) := by decide +kernel
theorem dX5_stillWith_67 : decode cX5_stillWith 67 = .ok (.iconst 4, 1) := by decide +kernel
theorem dX5_stillWith_68 : decode cX5_stillWith 68 = .ok (.invokevirtual 81, 3) := by decide +kernel
theorem dX5_stillWith_71 : decode cX5_stillWith 71 = .ok (.iastore, 1) := by decide +kernel
theorem dX5_stillWith_72 : decode cX5_stillWith 72 = .ok (.iinc 3 1, 3) := by decide +kernel
theorem dX5_stillWith_75 : decode cX5_stillWith 75 = .ok (.goto (-62), 3) := by decide +kernel
theorem dX5_stillWith_78 : decode cX5_stillWith 78 = .ok (.aload_n 0, 1) := by decide +kernel
theorem dX5_stillWith_79 : decode cX5_stillWith 79 = .ok (.iload_n 2, 1) := by decide +kernel
theorem dX5_stillWith_80 : decode cX5_stillWith 80 = .ok (.invokevirtual 139, 3) := by decide +kernel
theorem dX5_stillWith_83 : decode cX5_stillWith 83 = .ok (.aload_n 0, 1) := by decide +kernel
theorem dX5_stillWith_84 : decode cX5_stillWith 84 = .ok (.aload_n 0, 1) := by decide +kernel
theorem dX5_stillWith_85 : decode cX5_stillWith 85 = .ok (.invokevirtual 153, 3) := by decide +kernel
theorem dX5_stillWith_88 : decode cX5_stillWith 88 = .ok (.invokevirtual 183, 3) := by decide +kernel
theorem dX5_stillWith_91 : decode cX5_stillWith 91 = .ok (.ireturn, 1) := by decide +kernel
set_option maxHeartbeats 4000000 in
set_option maxRecDepth 100000 in
theorem g_X5_stillWith {E : fh_E} {M : fh_M} (C : fh_Cx E M cX5_stillWith 5 RX5 ((some FieldType.int)) rm_X5_stillWith) (Hr : fh_Rt E M) (k1 : Nat) (a2 : Int32) (a3 : Int32) (σ4 : fh_S) : fh_Go E M 5 fh_vI 0 [(0, .ref (fh_ad E k1)), (1, .int a2), (2, .int a3)] [] σ4 (f_X5_stillWith k1 a2 a3 σ4) := by
  have hok := fh_cok C
  refine go_ob ?_
  refine go_aload_n C 0 rfl rfl dX5_stillWith_0 ?_
  refine go_gr (ci := 5) (j := 0) C fh_in5 rfl (by decide) rfl q_746 dX5_stillWith_1 (fun k5 => ?_)
  refine go_aload_n C 0 rfl rfl dX5_stillWith_4 ?_
  refine go_gr (ci := 5) (j := 2) C fh_in5 rfl (by decide) rfl q_748 dX5_stillWith_5 (fun k6 => ?_)
  refine go_callSU C (st := []) [.ref (fh_ad E k5), .ref (fh_ad E k6)] (m_X5_copyRow E _ hok k5 k6 σ4) rfl ⟨q_993, q_994, q_6, q_995⟩ pd_X5_copyRow rfl ⟨⟨Nat.le_of_ble_eq_true rfl, Nat.le_of_ble_eq_true rfl⟩, rfl, rfl⟩ (Nat.le_of_ble_eq_true rfl) dX5_stillWith_8 (fun _ σ7 => ?_)
  refine go_iconst C (0 : Int32) dX5_stillWith_11 rfl ?_
  refine go_istore_n C [(3, .int ((0 : Int32))), (0, .ref (fh_ad E k1)), (1, .int a2), (2, .int a3)] rfl rfl (by decide) dX5_stillWith_12 ?_
  refine go_lv [1, 2, 3, 0] (lv' := [(0, .ref (fh_ad E k1)), (1, .int a2), (2, .int a3), (3, .int ((0 : Int32)))]) rfl ?_
  refine go_fx (fun (r10 : Int32 → fh_S → Option (Int32 × fh_S)) => ∀ (x8 : Int32) (σ9 : fh_S), fh_Go E M 5 fh_vI 13 [(0, .ref (fh_ad E k1)), (1, .int a2), (2, .int a3), (3, .int x8)] [] σ9 (r10 x8 σ9)) ?_ ?_ fh_fu ((0 : Int32)) σ7
  · intro x8 σ9
    exact go_none
  · intro r10 hr10 x8 σ9
    refine go_iload_n C 3 rfl rfl dX5_stillWith_13 ?_
    refine go_aload_n C 0 rfl rfl dX5_stillWith_14 ?_
    refine go_gr (ci := 5) (j := 0) C fh_in5 rfl (by decide) rfl q_746 dX5_stillWith_15 (fun k11 => ?_)
    refine go_iconst C (1 : Int32) dX5_stillWith_18 rfl ?_
    refine go_iald C dX5_stillWith_19 (fun v12 => ?_)
    refine go_icmp_ge (tgt := 78) C dX5_stillWith_20 rfl (fun _ => ?_) (fun _ => ?_)
    · refine go_aload_n C 0 rfl rfl dX5_stillWith_78 ?_
      refine go_iload_n C 2 rfl rfl dX5_stillWith_79 ?_
      refine go_callVU C (st := []) [.int a3] (m_X5_ticks E _ hok k1 a3 σ9) (fun _ h => fh_ob_ok h) rfl rfl ⟨q_898, q_900, qs_29, q_6, q_901⟩ pd_X5_ticks rfl ⟨⟨Nat.le_of_ble_eq_true rfl, Nat.le_of_ble_eq_true rfl⟩, rfl, rfl⟩ (Nat.le_of_ble_eq_true rfl) dX5_stillWith_80 (fun _ σ13 => ?_)
      refine go_aload_n C 0 rfl rfl dX5_stillWith_83 ?_
      refine go_aload_n C 0 rfl rfl dX5_stillWith_84 ?_
      refine go_callVI C (st := [.ref (fh_ad E k1)]) [] (m_X5_stillNow E _ hok k1 σ13) (fun _ h => fh_ob_ok h) rfl rfl ⟨q_914, q_916, qs_32, q_6, q_917⟩ pd_X5_stillNow rfl ⟨⟨Nat.le_of_ble_eq_true rfl, Nat.le_of_ble_eq_true rfl⟩, rfl, rfl⟩ (Nat.le_of_ble_eq_true rfl) dX5_stillWith_85 (fun r15 σ14 => ?_)
      refine go_callVI C (st := []) [.int r15] (m_X5_putBack E _ hok k1 r15 σ14) (fun _ h => fh_ob_ok h) rfl rfl ⟨q_996, q_998, qs_43, q_6, q_999⟩ pd_X5_putBack rfl ⟨⟨Nat.le_of_ble_eq_true rfl, Nat.le_of_ble_eq_true rfl⟩, rfl, rfl⟩ (Nat.le_of_ble_eq_true rfl) dX5_stillWith_88 (fun r17 σ16 => ?_)
      exact go_iret C Hr rfl dX5_stillWith_91
    · refine go_iload_n C 1 rfl rfl dX5_stillWith_23 ?_
      refine go_iload_n C 3 rfl rfl dX5_stillWith_24 ?_
      refine go_callSI C (st := []) [.int a2, .int x8] (m_X5_has E _ hok a2 x8 σ9) rfl ⟨q_945, q_946, q_6, q_947⟩ pd_X5_has rfl ⟨⟨Nat.le_of_ble_eq_true rfl, Nat.le_of_ble_eq_true rfl⟩, rfl, rfl⟩ (Nat.le_of_ble_eq_true rfl) dX5_stillWith_25 (fun r19 σ18 => ?_)
      refine go_jn (fun (j31 : Int32 → fh_S → Option (Int32 × fh_S)) => ∀ (x20 : Int32) (σ21 : fh_S), fh_Go E M 5 fh_vI 45 [(0, .ref (fh_ad E k1)), (1, .int a2), (2, .int a3), (3, .int x8)] [.int x20] σ21 (j31 x20 σ21)) ?_ (fun j31 hj31 => ?_)
      · intro x20 σ21
        refine go_istore C [(4, .int x20), (0, .ref (fh_ad E k1)), (1, .int a2), (2, .int a3), (3, .int x8)] rfl (by decide) dX5_stillWith_45 ?_
        refine go_aload_n C 1 rfl rfl dX5_stillWith_47 ?_
        refine go_gr (ci := 5) (j := 0) C fh_in5 rfl (by decide) rfl q_746 dX5_stillWith_48 (fun k22 => ?_)
        refine go_iload_n C 4 rfl rfl dX5_stillWith_51 ?_
        refine go_iconst C (4 : Int32) dX5_stillWith_52 rfl ?_
        refine go_callSI C (st := [.ref (fh_ad E k22)]) [.int x8, .int ((4 : Int32))] (m_X5_at E _ hok x8 ((4 : Int32)) σ21) rfl ⟨q_830, q_831, q_6, q_832⟩ pd_X5_at rfl ⟨⟨Nat.le_of_ble_eq_true rfl, Nat.le_of_ble_eq_true rfl⟩, rfl, rfl⟩ (Nat.le_of_ble_eq_true rfl) dX5_stillWith_53 (fun r24 σ23 => ?_)
        refine go_iload C 0 rfl dX5_stillWith_56 ?_
        refine go_jn (fun (j28 : Int32 → fh_S → Option (Int32 × fh_S)) => ∀ (x25 : Int32) (σ26 : fh_S), fh_Go E M 5 fh_vI 71 [(0, .ref (fh_ad E k1)), (1, .int a2), (2, .int a3), (3, .int x8)] [.int x25, .int r24, .ref (fh_ad E k22)] σ26 (j28 x25 σ26)) ?_ (fun j28 hj28 => ?_)
        · intro x25 σ26
          refine go_iast C dX5_stillWith_71 (fun σ27 => ?_)
          refine go_iinc C (x8 + 1) 3 [(3, .int (x8 + 1)), (0, .ref (fh_ad E k1)), (1, .int a2), (2, .int a3)] rfl rfl rfl (by decide) dX5_stillWith_72 ?_
          refine go_goto C 13 dX5_stillWith_75 rfl ?_
          refine go_lv [1, 2, 3, 0] (lv' := [(0, .ref (fh_ad E k1)), (1, .int a2), (2, .int a3), (3, .int (x8 + 1))]) rfl ?_
          exact hr10 (x8 + 1) σ27
        refine go_if_eq (tgt := 65) C dX5_stillWith_58 rfl (fun _ => ?_) (fun _ => ?_)
        · refine go_aload_n C 1 rfl rfl dX5_stillWith_65 ?_
          refine go_iload_n C 4 rfl rfl dX5_stillWith_66 ?_
          refine go_iconst C (4 : Int32) dX5_stillWith_67 rfl ?_
          refine go_callVI C (st := [.int r24, .ref (fh_ad E k22)]) [.int x8, .int ((4 : Int32))] (m_X5_dialIs E _ hok k1 x8 ((4 : Int32)) σ23) (fun _ h => fh_ob_ok h) rfl rfl ⟨q_849, q_851, qs_24, q_6, q_852⟩ pd_X5_dialIs rfl ⟨⟨Nat.le_of_ble_eq_true rfl, Nat.le_of_ble_eq_true rfl⟩, rfl, rfl⟩ (Nat.le_of_ble_eq_true rfl) dX5_stillWith_68 (fun r30 σ29 => ?_)
          refine go_lv [1, 2, 3, 4] (lv' := [(0, .ref (fh_ad E k1)), (1, .int a2), (2, .int a3), (3, .int x8)]) rfl ?_
          exact hj28 r30 σ29
        · refine go_iconst C (1 : Int32) dX5_stillWith_61 rfl ?_
          refine go_goto C 71 dX5_stillWith_62 rfl ?_
          refine go_lv [1, 2, 3, 4] (lv' := [(0, .ref (fh_ad E k1)), (1, .int a2), (2, .int a3), (3, .int x8)]) rfl ?_
          exact hj28 ((1 : Int32)) σ23
      refine go_jn (fun (j33 : fh_S → Option (Int32 × fh_S)) => ∀ (σ32 : fh_S), fh_Go E M 5 fh_vI 44 [(0, .ref (fh_ad E k1)), (1, .int a2), (2, .int a3), (3, .int x8)] [] σ32 (j33 σ32)) ?_ (fun j33 hj33 => ?_)
      · intro σ32
        refine go_iconst C (0 : Int32) dX5_stillWith_44 rfl ?_
        exact hj31 ((0 : Int32)) σ32
      refine go_if_eq (tgt := 44) C dX5_stillWith_28 rfl (fun _ => ?_) (fun _ => ?_)
      · exact hj33 σ18
      · refine go_aload_n C 0 rfl rfl dX5_stillWith_31 ?_
        refine go_iload_n C 3 rfl rfl dX5_stillWith_32 ?_
        refine go_iconst C (1 : Int32) dX5_stillWith_33 rfl ?_
        refine go_callVI C (st := []) [.int x8, .int ((1 : Int32))] (m_X5_stops E _ hok k1 x8 ((1 : Int32)) σ18) (fun _ h => fh_ob_ok h) rfl rfl ⟨q_888, q_890, qs_28, q_6, q_891⟩ pd_X5_stops rfl ⟨⟨Nat.le_of_ble_eq_true rfl, Nat.le_of_ble_eq_true rfl⟩, rfl, rfl⟩ (Nat.le_of_ble_eq_true rfl) dX5_stillWith_34 (fun r35 σ34 => ?_)
        refine go_if_eq (tgt := 44) C dX5_stillWith_37 rfl (fun _ => ?_) (fun _ => ?_)
        · exact hj33 σ34
        · refine go_iconst C (1 : Int32) dX5_stillWith_40 rfl ?_
          refine go_goto C 45 dX5_stillWith_41 rfl ?_
          exact hj31 ((1 : Int32)) σ34
theorem m_X5_stillWith (E : fh_E) (l : Launch) (hok : fh_ok E) (k1 : Nat) (a2 : Int32) (a3 : Int32) (σ4 : fh_S) : fh_Met E l yX5_stillWith cX5_stillWith 5 ((some FieldType.int)) rm_X5_stillWith fh_vI [.ref (fh_ad E k1), .int a2, .int a3] σ4 (f_X5_stillWith k1 a2 a3 σ4) := fh_met hok (by decide +kernel) (Nat.le_of_ble_eq_true rfl) (fun M _ C Hr => g_X5_stillWith C Hr k1 a2 a3 σ4)
