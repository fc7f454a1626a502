def f_X4_sheet_J41 (k1 : Nat) : fh_S → Option (Int32 × fh_S) := fun σ10 => fh_cb (f_X4_tell k1 ((-1000001 : Int32)) σ10) fun r12 σ11 => some (r12, σ11)
def f_X4_sheet_J27 (a2 : Int32) (k1 : Nat) (a4 : Int32) (a3 : Int32) : Int32 → fh_S → Option (Int32 × fh_S) := fun x6 σ7 => fh_cb (f_X4_isSheet a2 σ7) fun r9 σ8 => fh_jn (f_X4_sheet_J41 k1) (fun j13 => if r9 = 0 then j13 σ8 else if x6 = 0 then j13 σ8 else if 0 ≤ a4 then if a4 ≤ ((40 : Int32)) then (fh_gr 4 k1 5).bind fun k14 => (fh_lr k14 a2).bind fun k15 => fh_cb (f_X2_layOut k15 a3 a4 σ8) fun _ σ16 => (fh_gr 4 k1 5).bind fun k17 => (fh_lr k17 a2).bind fun k18 => (fh_gi σ16 2 k18 2).bind fun v19 => some (v19, σ16) else fh_cb (f_X4_tell k1 ((-1000001 : Int32)) σ8) fun r21 σ20 => some (r21, σ20) else fh_cb (f_X4_tell k1 ((-1000007 : Int32)) σ8) fun r23 σ22 => some (r23, σ22))
def f_X4_sheet_J22 (j24 : Int32 → fh_S → Option (Int32 × fh_S)) : fh_S → Option (Int32 × fh_S) := fun σ25 => j24 ((1 : Int32)) σ25
def f_X4_sheet (k1 : Nat) (a2 : Int32) (a3 : Int32) (a4 : Int32) (σ5 : fh_S) : Option (Int32 × fh_S) := fh_ob 4 k1 (fh_jn (f_X4_sheet_J27 a2 k1 a4 a3) (fun j24 => fh_jn (f_X4_sheet_J22 j24) (fun j26 => if a3 = 0 then j26 σ5 else if a3 = ((8 : Int32)) then j26 σ5 else if a3 = ((16 : Int32)) then j26 σ5 else if a3 = ((32 : Int32)) then j26 σ5 else j24 ((0 : Int32)) σ5)))
abbrev rm_X4_sheet : Room := { frames := 2, cells := 0, slots := 0, locals := 44 }
theorem pd_X4_sheet : yX4_sheet.cls ≠ "java/lang/invoke/MethodHandle" ∧ yX4_sheet.cls ≠ "java/lang/invoke/VarHandle" ∧ (parseMethodDescriptor yX4_sheet.desc).map (fun d => d.parameters.length) = some 3 := by decide +kernel
theorem dX4_sheet_0 : decode cX4_sheet 0 = .ok (.iload_n 2, 1) := by decide +kernel
theorem dX4_sheet_1 : decode cX4_sheet 1 = .ok (.ifCond .eq 21, 3) := by decide +kernel
theorem dX4_sheet_4 : decode cX4_sheet 4 = .ok (.iload_n 2, 1) := by decide +kernel
theorem dX4_sheet_5 : decode cX4_sheet 5 = .ok (.bipush 8, 2) := by decide +kernel
theorem dX4_sheet_7 : decode cX4_sheet 7 = .ok (.if_icmp .eq 15, 3) := by decide +kernel
theorem dX4_sheet_10 : decode cX4_sheet 10 = .ok (.iload_n 2, 1) := by decide +kernel
theorem dX4_sheet_11 : decode cX4_sheet 11 = .ok (.bipush 16, 2) := by decide +kernel
theorem dX4_sheet_13 : decode cX4_sheet 13 = .ok (.if_icmp .eq 9, 3) := by decide +kernel
theorem dX4_sheet_16 : decode cX4_sheet 16 = .ok (.iload_n 2, 1) := by decide +kernel
theorem dX4_sheet_17 : decode cX4_sheet 17 = .ok (.bipush 32, 2) := by decide +kernel
theorem dX4_sheet_19 : decode cX4_sheet 19 = .ok (.if_icmp .ne 7, 3) := by decide +kernel
theorem dX4_sheet_22 : decode cX4_sheet 22 = .ok (.iconst 1, 1) := by decide +kernel
theorem dX4_sheet_23 : decode cX4_sheet 23 = .ok (.goto 4, 3) := by decide +kernel
theorem dX4_sheet_26 : decode cX4_sheet 26 = .ok (.iconst 0, 1) := by decide +kernel
theorem dX4_sheet_27 : decode cX4_sheet 27 = .ok (.istore 4, 2) := by decide +kernel
theorem dX4_sheet_29 : decode cX4_sheet 29 = .ok (.iload_n 1, 1) := by decide +kernel
theorem dX4_sheet_30 : decode cX4_sheet 30 = .ok (.invokestatic 232, 3) := by decide +kernel
theorem dX4_sheet_33 : decode cX4_sheet 33 = .ok (.ifCond .eq 8, 3) := by decide +kernel
theorem dX4_sheet_36 : decode cX4_sheet 36 = .ok (.iload 4, 2) := by decide +kernel
theorem dX4_sheet_38 : decode cX4_sheet 38 = .ok (.ifCond .ne 10, 3) := by decide +kernel
theorem dX4_sheet_41 : decode cX4_sheet 41 = .ok (.aload_n 0, 1) := by decide +kernel
theorem dX4_sheet_42 : decode cX4_sheet 42 = .ok (.ldc 57, 2) := by decide +kernel
theorem dX4_sheet_44 : decode cX4_sheet 44 = .ok (.invokevirtual 58, 3) := by decide +kernel
theorem dX4_sheet_47 : decode cX4_sheet 47 = .ok (.ireturn, 1) := by decide +kernel
theorem dX4_sheet_48 : decode cX4_sheet 48 = .ok (.iload_n 3, 1) := by decide +kernel
theorem dX4_sheet_49 : decode cX4_sheet 49 = .ok (.ifCond .ge 10, 3) := by decide +kernel
theorem dX4_sheet_52 : decode cX4_sheet 52 = .ok (.aload_n 0, 1) := by decide +kernel
theorem dX4_sheet_53 : decode cX4_sheet 53 = .ok (.ldc 235, 2) := by decide +kernel
theorem dX4_sheet_55 : decode cX4_sheet 55 = .ok (.invokevirtual 58, 3) := by decide +kernel
theorem dX4_sheet_58 : decode cX4_sheet 58 = .ok (.ireturn, 1) := by decide +kernel
theorem dX4_sheet_59 : decode cX4_sheet 59 = .ok (.iload_n 3, 1) := by decide +kernel
theorem dX4_sheet_60 : decode cX4_sheet 60 = .ok (.bipush 40, 2) := by decide +kernel
theorem dX4_sheet_62 : decode cX4_sheet 62 = .ok (.if_icmp .le 10, 3) := by decide +kernel
theorem dX4_sheet_65 : decode cX4_sheet 65 = .ok (.aload_n 0, 1) := by decide +kernel
theorem dX4_sheet_66 : decode cX4_sheet 66 = .ok (.ldc 57, 2) := by decide +kernel
theorem dX4_sheet_68 : decode cX4_sheet 68 = .ok (.invokevirtual 58, 3) := by decide +kernel
theorem dX4_sheet_71 : decode cX4_sheet 71 = .ok (.ireturn, 1) := by decide +kernel
theorem dX4_sheet_72 : decode cX4_sheet 72 = .ok (.aload_n 0, 1) := by decide +kernel
theorem dX4_sheet_73 : decode cX4_sheet 73 = .ok (.getfield 40, 3) := by decide +kernel
theorem dX4_sheet_76 : decode cX4_sheet 76 = .ok (.iload_n 1, 1) := by decide +kernel
theorem dX4_sheet_77 : decode cX4_sheet 77 = .ok (.aaload, 1) := by decide +kernel
theorem dX4_sheet_78 : decode cX4_sheet 78 = .ok (.iload_n 2, 1) := by decide +kernel
theorem dX4_sheet_79 : decode cX4_sheet 79 = .ok (.iload_n 3, 1) := by decide +kernel
theorem dX4_sheet_80 : decode cX4_sheet 80 = .ok (.invokevirtual 236, 3) := by decide +kernel
theorem dX4_sheet_83 : decode cX4_sheet 83 = .ok (.aload_n 0, 1) := by decide +kernel
theorem dX4_sheet_84 : decode cX4_sheet 84 = .ok (.getfield 40, 3) := by decide +kernel
theorem dX4_sheet_87 : decode cX4_sheet 87 = .ok (.iload_n 1, 1) := by decide +kernel
theorem dX4_sheet_88 : decode cX4_sheet 88 = .ok (.aaload, 1) := by decide +kernel
theorem dX4_sheet_89 : decode cX4_sheet 89 = .ok (.getfield 239, 3) := by decide +kernel
theorem dX4_sheet_92 : decode cX4_sheet 92 = .ok (.ireturn, 1) := by decide +kernel
set_option maxHeartbeats 4000000 in
set_option maxRecDepth 100000 in
theorem g_X4_sheet {E : fh_E} {M : fh_M} (C : fh_Cx E M cX4_sheet 5 RX4 ((some FieldType.int)) rm_X4_sheet) (Hr : fh_Rt E M) (k1 : Nat) (a2 : Int32) (a3 : Int32) (a4 : Int32) (σ5 : fh_S) : fh_Go E M 5 fh_vI 0 [(0, .ref (fh_ad E k1)), (1, .int a2), (2, .int a3), (3, .int a4)] [] σ5 (f_X4_sheet k1 a2 a3 a4 σ5) := by
  have hok := fh_cok C
  refine go_ob ?_
  refine go_iload_n C 2 rfl rfl dX4_sheet_0 ?_
  refine go_jn (fun (j24 : Int32 → fh_S → Option (Int32 × fh_S)) => ∀ (x6 : Int32) (σ7 : fh_S), fh_Go E M 5 fh_vI 27 [(0, .ref (fh_ad E k1)), (1, .int a2), (2, .int a3), (3, .int a4)] [.int x6] σ7 (j24 x6 σ7)) ?_ (fun j24 hj24 => ?_)
  · intro x6 σ7
    refine go_istore C [(4, .int x6), (0, .ref (fh_ad E k1)), (1, .int a2), (2, .int a3), (3, .int a4)] rfl (by decide) dX4_sheet_27 ?_
    refine go_iload_n C 2 rfl rfl dX4_sheet_29 ?_
    refine go_callSI C (st := []) [.int a2] (m_X4_isSheet E _ hok a2 σ7) rfl ⟨q_450, q_451, q_1, q_452⟩ pd_X4_isSheet rfl ⟨⟨Nat.le_of_ble_eq_true rfl, Nat.le_of_ble_eq_true rfl⟩, rfl, rfl⟩ (Nat.le_of_ble_eq_true rfl) dX4_sheet_30 (fun r9 σ8 => ?_)
    refine go_jn (fun (j13 : fh_S → Option (Int32 × fh_S)) => ∀ (σ10 : fh_S), fh_Go E M 5 fh_vI 41 [(0, .ref (fh_ad E k1))] [] σ10 (j13 σ10)) ?_ (fun j13 hj13 => ?_)
    · intro σ10
      refine go_aload_n C 0 rfl rfl dX4_sheet_41 ?_
      refine go_ldc C q_175 dX4_sheet_42 ?_
      refine go_callVI C (st := []) [.int ((-1000001 : Int32))] (m_X4_tell E _ hok k1 ((-1000001 : Int32)) σ10) (fun _ h => fh_ob_ok h) rfl rfl ⟨q_176, q_178, qs_0, q_1, q_179⟩ pd_X4_tell rfl ⟨⟨Nat.le_of_ble_eq_true rfl, Nat.le_of_ble_eq_true rfl⟩, rfl, rfl⟩ (Nat.le_of_ble_eq_true rfl) dX4_sheet_44 (fun r12 σ11 => ?_)
      exact go_iret C Hr rfl dX4_sheet_47
    refine go_if_eq (tgt := 41) C dX4_sheet_33 rfl (fun _ => ?_) (fun _ => ?_)
    · refine go_lv [1] (lv' := [(0, .ref (fh_ad E k1))]) rfl ?_
      exact hj13 σ8
    · refine go_iload C 0 rfl dX4_sheet_36 ?_
      refine go_if_ne (tgt := 48) C dX4_sheet_38 rfl (fun _ => ?_) (fun _ => ?_)
      · refine go_iload_n C 4 rfl rfl dX4_sheet_48 ?_
        refine go_if_ge (tgt := 59) C dX4_sheet_49 rfl (fun _ => ?_) (fun _ => ?_)
        · refine go_iload_n C 4 rfl rfl dX4_sheet_59 ?_
          refine go_bipush C (40 : Int32) dX4_sheet_60 rfl ?_
          refine go_icmp_le (tgt := 72) C dX4_sheet_62 rfl (fun _ => ?_) (fun _ => ?_)
          · refine go_aload_n C 1 rfl rfl dX4_sheet_72 ?_
            refine go_gr (ci := 4) (j := 5) C fh_in4 rfl (by decide) rfl q_143 dX4_sheet_73 (fun k14 => ?_)
            refine go_iload_n C 2 rfl rfl dX4_sheet_76 ?_
            refine go_aald C dX4_sheet_77 (fun k15 => ?_)
            refine go_iload_n C 3 rfl rfl dX4_sheet_78 ?_
            refine go_iload_n C 4 rfl rfl dX4_sheet_79 ?_
            refine go_callVU C (st := []) [.int a3, .int a4] (m_X2_layOut E _ hok k15 a3 a4 σ8) (fun _ h => fh_ob_ok h) rfl rfl ⟨q_678, q_679, q_680, q_5, q_681⟩ pd_X2_layOut rfl ⟨⟨Nat.le_of_ble_eq_true rfl, Nat.le_of_ble_eq_true rfl⟩, rfl, rfl⟩ (Nat.le_of_ble_eq_true rfl) dX4_sheet_80 (fun _ σ16 => ?_)
            refine go_aload_n C 1 rfl rfl dX4_sheet_83 ?_
            refine go_gr (ci := 4) (j := 5) C fh_in4 rfl (by decide) rfl q_143 dX4_sheet_84 (fun k17 => ?_)
            refine go_iload_n C 2 rfl rfl dX4_sheet_87 ?_
            refine go_aald C dX4_sheet_88 (fun k18 => ?_)
            refine go_gi (ci := 2) (j := 2) C fh_in2 rfl (by decide) rfl q_130 dX4_sheet_89 (fun v19 => ?_)
            exact go_iret C Hr rfl dX4_sheet_92
          · refine go_aload_n C 1 rfl rfl dX4_sheet_65 ?_
            refine go_ldc C q_175 dX4_sheet_66 ?_
            refine go_callVI C (st := []) [.int ((-1000001 : Int32))] (m_X4_tell E _ hok k1 ((-1000001 : Int32)) σ8) (fun _ h => fh_ob_ok h) rfl rfl ⟨q_176, q_178, qs_0, q_1, q_179⟩ pd_X4_tell rfl ⟨⟨Nat.le_of_ble_eq_true rfl, Nat.le_of_ble_eq_true rfl⟩, rfl, rfl⟩ (Nat.le_of_ble_eq_true rfl) dX4_sheet_68 (fun r21 σ20 => ?_)
            exact go_iret C Hr rfl dX4_sheet_71
        · refine go_aload_n C 1 rfl rfl dX4_sheet_52 ?_
          refine go_ldc C q_677 dX4_sheet_53 ?_
          refine go_callVI C (st := []) [.int ((-1000007 : Int32))] (m_X4_tell E _ hok k1 ((-1000007 : Int32)) σ8) (fun _ h => fh_ob_ok h) rfl rfl ⟨q_176, q_178, qs_0, q_1, q_179⟩ pd_X4_tell rfl ⟨⟨Nat.le_of_ble_eq_true rfl, Nat.le_of_ble_eq_true rfl⟩, rfl, rfl⟩ (Nat.le_of_ble_eq_true rfl) dX4_sheet_55 (fun r23 σ22 => ?_)
          exact go_iret C Hr rfl dX4_sheet_58
      · refine go_lv [1] (lv' := [(0, .ref (fh_ad E k1))]) rfl ?_
        exact hj13 σ8
  refine go_jn (fun (j26 : fh_S → Option (Int32 × fh_S)) => ∀ (σ25 : fh_S), fh_Go E M 5 fh_vI 22 [(0, .ref (fh_ad E k1)), (1, .int a2), (2, .int a3), (3, .int a4)] [] σ25 (j26 σ25)) ?_ (fun j26 hj26 => ?_)
  · intro σ25
    refine go_iconst C (1 : Int32) dX4_sheet_22 rfl ?_
    refine go_goto C 27 dX4_sheet_23 rfl ?_
    exact hj24 ((1 : Int32)) σ25
  refine go_if_eq (tgt := 22) C dX4_sheet_1 rfl (fun _ => ?_) (fun _ => ?_)
  · exact hj26 σ5
  · refine go_iload_n C 2 rfl rfl dX4_sheet_4 ?_
    refine go_bipush C (8 : Int32) dX4_sheet_5 rfl ?_
    refine go_icmp_eq (tgt := 22) C dX4_sheet_7 rfl (fun _ => ?_) (fun _ => ?_)
    · exact hj26 σ5
    · refine go_iload_n C 2 rfl rfl dX4_sheet_10 ?_
      refine go_bipush C (16 : Int32) dX4_sheet_11 rfl ?_
      refine go_icmp_eq (tgt := 22) C dX4_sheet_13 rfl (fun _ => ?_) (fun _ => ?_)
      · exact hj26 σ5
      · refine go_iload_n C 2 rfl rfl dX4_sheet_16 ?_
        refine go_bipush C (32 : Int32) dX4_sheet_17 rfl ?_
        refine go_icmp_ne (tgt := 26) C dX4_sheet_19 rfl (fun _ => ?_) (fun _ => ?_)
        · refine go_iconst C (0 : Int32) dX4_sheet_26 rfl ?_
          exact hj24 ((0 : Int32)) σ5
        · exact hj26 σ5
theorem m_X4_sheet (E : fh_E) (l : Launch) (hok : fh_ok E) (k1 : Nat) (a2 : Int32) (a3 : Int32) (a4 : Int32) (σ5 : fh_S) : fh_Met E l yX4_sheet cX4_sheet 5 ((some FieldType.int)) rm_X4_sheet fh_vI [.ref (fh_ad E k1), .int a2, .int a3, .int a4] σ5 (f_X4_sheet k1 a2 a3 a4 σ5) := fh_met hok (by decide +kernel) (Nat.le_of_ble_eq_true rfl) (fun M _ C Hr => g_X4_sheet C Hr k1 a2 a3 a4 σ5)
def f_X4_write_J35 (k1 : Nat) (a2 : Int32) (a3 : Int32) (a4 : Int32) : Int32 → fh_S → Option (Int32 × fh_S) := fun x8 σ9 => if x8 = 0 then (fh_gr 4 k1 5).bind fun k10 => (fh_lr k10 a2).bind fun k11 => fh_cb (f_X2_put k11 a3 a4 σ9) fun _ σ12 => some ((1 : Int32), σ12) else fh_cb (f_X4_tell k1 x8 σ9) fun r14 σ13 => some (r14, σ13)
def f_X4_write (k1 : Nat) (a2 : Int32) (a3 : Int32) (a4 : Int32) (σ5 : fh_S) : Option (Int32 × fh_S) := fh_ob 4 k1 (fh_cb (f_X4_findingOfSheet k1 a2 σ5) fun r7 σ6 => fh_jn (f_X4_write_J35 k1 a2 a3 a4) (fun j15 => if r7 = 0 then (fh_gr 4 k1 5).bind fun k16 => (fh_lr k16 a2).bind fun k17 => (fh_gi σ6 2 k17 2).bind fun v18 => fh_cb (f_X4_isWithin a3 ((0 : Int32)) (v18 - ((1 : Int32))) σ6) fun r20 σ19 => if r20 = 0 then j15 ((-1000001 : Int32)) σ19 else j15 r7 σ19 else j15 r7 σ6))
abbrev rm_X4_write : Room := { frames := 3, cells := 0, slots := 0, locals := 63 }
theorem pd_X4_write : yX4_write.cls ≠ "java/lang/invoke/MethodHandle" ∧ yX4_write.cls ≠ "java/lang/invoke/VarHandle" ∧ (parseMethodDescriptor yX4_write.desc).map (fun d => d.parameters.length) = some 3 := by decide +kernel
theorem dX4_write_0 : decode cX4_write 0 = .ok (.aload_n 0, 1) := by decide +kernel
theorem dX4_write_1 : decode cX4_write 1 = .ok (.iload_n 1, 1) := by decide +kernel
theorem dX4_write_2 : decode cX4_write 2 = .ok (.invokevirtual 187, 3) := by decide +kernel
theorem dX4_write_5 : decode cX4_write 5 = .ok (.istore 4, 2) := by decide +kernel
theorem dX4_write_7 : decode cX4_write 7 = .ok (.iload 4, 2) := by decide +kernel
theorem dX4_write_9 : decode cX4_write 9 = .ok (.ifCond .ne 26, 3) := by decide +kernel
theorem dX4_write_12 : decode cX4_write 12 = .ok (.iload_n 2, 1) := by decide +kernel
theorem dX4_write_13 : decode cX4_write 13 = .ok (.iconst 0, 1) := by decide +kernel
theorem dX4_write_14 : decode cX4_write 14 = .ok (.aload_n 0, 1) := by decide +kernel
theorem dX4_write_15 : decode cX4_write 15 = .ok (.getfield 40, 3) := by decide +kernel
theorem dX4_write_18 : decode cX4_write 18 = .ok (.iload_n 1, 1) := by decide +kernel
theorem dX4_write_19 : decode cX4_write 19 = .ok (.aaload, 1) := by decide +kernel
theorem dX4_write_20 : decode cX4_write 20 = .ok (.getfield 239, 3) := by decide +kernel
theorem dX4_write_23 : decode cX4_write 23 = .ok (.iconst 1, 1) := by decide +kernel
theorem dX4_write_24 : decode cX4_write 24 = .ok (.isub, 1) := by decide +kernel
theorem dX4_write_25 : decode cX4_write 25 = .ok (.invokestatic 84, 3) := by decide +kernel
theorem dX4_write_28 : decode cX4_write 28 = .ok (.ifCond .ne 7, 3) := by decide +kernel
theorem dX4_write_31 : decode cX4_write 31 = .ok (.ldc 57, 2) := by decide +kernel
theorem dX4_write_33 : decode cX4_write 33 = .ok (.istore 4, 2) := by decide +kernel
theorem dX4_write_35 : decode cX4_write 35 = .ok (.iload 4, 2) := by decide +kernel
theorem dX4_write_37 : decode cX4_write 37 = .ok (.ifCond .eq 10, 3) := by decide +kernel
theorem dX4_write_40 : decode cX4_write 40 = .ok (.aload_n 0, 1) := by decide +kernel
theorem dX4_write_41 : decode cX4_write 41 = .ok (.iload 4, 2) := by decide +kernel
theorem dX4_write_43 : decode cX4_write 43 = .ok (.invokevirtual 58, 3) := by decide +kernel
theorem dX4_write_46 : decode cX4_write 46 = .ok (.ireturn, 1) := by decide +kernel
theorem dX4_write_47 : decode cX4_write 47 = .ok (.aload_n 0, 1) := by decide +kernel
theorem dX4_write_48 : decode cX4_write 48 = .ok (.getfield 40, 3) := by decide +kernel
theorem dX4_write_51 : decode cX4_write 51 = .ok (.iload_n 1, 1) := by decide +kernel
theorem dX4_write_52 : decode cX4_write 52 = .ok (.aaload, 1) := by decide +kernel
theorem dX4_write_53 : decode cX4_write 53 = .ok (.iload_n 2, 1) := by decide +kernel
theorem dX4_write_54 : decode cX4_write 54 = .ok (.iload_n 3, 1) := by decide +kernel
theorem dX4_write_55 : decode cX4_write 55 = .ok (.invokevirtual 240, 3) := by decide +kernel
theorem dX4_write_58 : decode cX4_write 58 = .ok (.iconst 1, 1) := by decide +kernel
theorem dX4_write_59 : decode cX4_write 59 = .ok (.ireturn, 1) := by decide +kernel
set_option maxHeartbeats 4000000 in
set_option maxRecDepth 100000 in
theorem g_X4_write {E : fh_E} {M : fh_M} (C : fh_Cx E M cX4_write 5 RX4 ((some FieldType.int)) rm_X4_write) (Hr : fh_Rt E M) (k1 : Nat) (a2 : Int32) (a3 : Int32) (a4 : Int32) (σ5 : fh_S) : fh_Go E M 5 fh_vI 0 [(0, .ref (fh_ad E k1)), (1, .int a2), (2, .int a3), (3, .int a4)] [] σ5 (f_X4_write k1 a2 a3 a4 σ5) := by
  have hok := fh_cok C
  refine go_ob ?_
  refine go_aload_n C 0 rfl rfl dX4_write_0 ?_
  refine go_iload_n C 1 rfl rfl dX4_write_1 ?_
  refine go_callVI C (st := []) [.int a2] (m_X4_findingOfSheet E _ hok k1 a2 σ5) (fun _ h => fh_ob_ok h) rfl rfl ⟨q_446, q_448, qs_5, q_1, q_449⟩ pd_X4_findingOfSheet rfl ⟨⟨Nat.le_of_ble_eq_true rfl, Nat.le_of_ble_eq_true rfl⟩, rfl, rfl⟩ (Nat.le_of_ble_eq_true rfl) dX4_write_2 (fun r7 σ6 => ?_)
  refine go_istore C [(4, .int r7), (0, .ref (fh_ad E k1)), (1, .int a2), (2, .int a3), (3, .int a4)] rfl (by decide) dX4_write_5 ?_
  refine go_iload C 0 rfl dX4_write_7 ?_
  refine go_jn (fun (j15 : Int32 → fh_S → Option (Int32 × fh_S)) => ∀ (x8 : Int32) (σ9 : fh_S), fh_Go E M 5 fh_vI 35 [(0, .ref (fh_ad E k1)), (1, .int a2), (2, .int a3), (3, .int a4), (4, .int x8)] [] σ9 (j15 x8 σ9)) ?_ (fun j15 hj15 => ?_)
  · intro x8 σ9
    refine go_iload C 4 rfl dX4_write_35 ?_
    refine go_if_eq (tgt := 47) C dX4_write_37 rfl (fun _ => ?_) (fun _ => ?_)
    · refine go_aload_n C 0 rfl rfl dX4_write_47 ?_
      refine go_gr (ci := 4) (j := 5) C fh_in4 rfl (by decide) rfl q_143 dX4_write_48 (fun k10 => ?_)
      refine go_iload_n C 1 rfl rfl dX4_write_51 ?_
      refine go_aald C dX4_write_52 (fun k11 => ?_)
      refine go_iload_n C 2 rfl rfl dX4_write_53 ?_
      refine go_iload_n C 3 rfl rfl dX4_write_54 ?_
      refine go_callVU C (st := []) [.int a3, .int a4] (m_X2_put E _ hok k11 a3 a4 σ9) (fun _ h => fh_ob_ok h) rfl rfl ⟨q_686, q_687, q_688, q_5, q_689⟩ pd_X2_put rfl ⟨⟨Nat.le_of_ble_eq_true rfl, Nat.le_of_ble_eq_true rfl⟩, rfl, rfl⟩ (Nat.le_of_ble_eq_true rfl) dX4_write_55 (fun _ σ12 => ?_)
      refine go_iconst C (1 : Int32) dX4_write_58 rfl ?_
      exact go_iret C Hr rfl dX4_write_59
    · refine go_aload_n C 0 rfl rfl dX4_write_40 ?_
      refine go_iload C 4 rfl dX4_write_41 ?_
      refine go_callVI C (st := []) [.int x8] (m_X4_tell E _ hok k1 x8 σ9) (fun _ h => fh_ob_ok h) rfl rfl ⟨q_176, q_178, qs_0, q_1, q_179⟩ pd_X4_tell rfl ⟨⟨Nat.le_of_ble_eq_true rfl, Nat.le_of_ble_eq_true rfl⟩, rfl, rfl⟩ (Nat.le_of_ble_eq_true rfl) dX4_write_43 (fun r14 σ13 => ?_)
      exact go_iret C Hr rfl dX4_write_46
  refine go_if_ne (tgt := 35) C dX4_write_9 rfl (fun _ => ?_) (fun _ => ?_)
  · refine go_lv [1, 2, 3, 4, 0] (lv' := [(0, .ref (fh_ad E k1)), (1, .int a2), (2, .int a3), (3, .int a4), (4, .int r7)]) rfl ?_
    exact hj15 r7 σ6
  · refine go_iload_n C 3 rfl rfl dX4_write_12 ?_
    refine go_iconst C (0 : Int32) dX4_write_13 rfl ?_
    refine go_aload_n C 1 rfl rfl dX4_write_14 ?_
    refine go_gr (ci := 4) (j := 5) C fh_in4 rfl (by decide) rfl q_143 dX4_write_15 (fun k16 => ?_)
    refine go_iload_n C 2 rfl rfl dX4_write_18 ?_
    refine go_aald C dX4_write_19 (fun k17 => ?_)
    refine go_gi (ci := 2) (j := 2) C fh_in2 rfl (by decide) rfl q_130 dX4_write_20 (fun v18 => ?_)
    refine go_iconst C (1 : Int32) dX4_write_23 rfl ?_
    refine go_isub C dX4_write_24 ?_
    refine go_callSI C (st := []) [.int a3, .int ((0 : Int32)), .int (v18 - ((1 : Int32)))] (m_X4_isWithin E _ hok a3 ((0 : Int32)) (v18 - ((1 : Int32))) σ6) rfl ⟨q_172, q_173, q_1, q_174⟩ pd_X4_isWithin rfl ⟨⟨Nat.le_of_ble_eq_true rfl, Nat.le_of_ble_eq_true rfl⟩, rfl, rfl⟩ (Nat.le_of_ble_eq_true rfl) dX4_write_25 (fun r20 σ19 => ?_)
    refine go_if_ne (tgt := 35) C dX4_write_28 rfl (fun _ => ?_) (fun _ => ?_)
    · refine go_lv [1, 2, 3, 4, 0] (lv' := [(0, .ref (fh_ad E k1)), (1, .int a2), (2, .int a3), (3, .int a4), (4, .int r7)]) rfl ?_
      exact hj15 r7 σ19
    · refine go_ldc C q_175 dX4_write_31 ?_
      refine go_istore C [(4, .int ((-1000001 : Int32))), (0, .ref (fh_ad E k1)), (1, .int a2), (2, .int a3), (3, .int a4)] rfl (by decide) dX4_write_33 ?_
      refine go_lv [1, 2, 3, 4, 0] (lv' := [(0, .ref (fh_ad E k1)), (1, .int a2), (2, .int a3), (3, .int a4), (4, .int ((-1000001 : Int32)))]) rfl ?_
      exact hj15 ((-1000001 : Int32)) σ19
theorem m_X4_write (E : fh_E) (l : Launch) (hok : fh_ok E) (k1 : Nat) (a2 : Int32) (a3 : Int32) (a4 : Int32) (σ5 : fh_S) : fh_Met E l yX4_write cX4_write 5 ((some FieldType.int)) rm_X4_write fh_vI [.ref (fh_ad E k1), .int a2, .int a3, .int a4] σ5 (f_X4_write k1 a2 a3 a4 σ5) := fh_met hok (by decide +kernel) (Nat.le_of_ble_eq_true rfl) (fun M _ C Hr => g_X4_write C Hr k1 a2 a3 a4 σ5)
def f_X4_copy_J14 (k1 : Nat) : fh_S → Option (Int32 × fh_S) := fun σ10 => fh_cb (f_X4_tell k1 ((-1000001 : Int32)) σ10) fun r12 σ11 => some (r12, σ11)
def f_X4_copy_J53 (k1 : Nat) : fh_S → Option (Int32 × fh_S) := fun σ22 => fh_cb (f_X4_tell k1 ((-1000006 : Int32)) σ22) fun r24 σ23 => some (r24, σ23)
def f_X4_copy_J103 (k1 : Nat) : fh_S → Option (Int32 × fh_S) := fun σ32 => fh_cb (f_X4_tell k1 ((-1000001 : Int32)) σ32) fun r34 σ33 => some (r34, σ33)
def f_X4_copy (k1 : Nat) (a2 : Int32) (a3 : Int32) (a4 : Int32) (a5 : Int32) (a6 : Int32) (σ7 : fh_S) : Option (Int32 × fh_S) := fh_ob 4 k1 (fh_cb (f_X4_isSheet a2 σ7) fun r9 σ8 => fh_jn (f_X4_copy_J14 k1) (fun j13 => if r9 = 0 then j13 σ8 else fh_cb (f_X4_isSheet a4 σ8) fun r15 σ14 => if r15 = 0 then j13 σ14 else (fh_gr 4 k1 5).bind fun k16 => (fh_lr k16 a2).bind fun k17 => (fh_gr 4 k1 5).bind fun k18 => (fh_lr k18 a4).bind fun k19 => fh_cb (f_X2_isMissing k17 σ14) fun r21 σ20 => fh_jn (f_X4_copy_J53 k1) (fun j25 => if r21 = 0 then fh_cb (f_X2_isMissing k19 σ20) fun r27 σ26 => if r27 = 0 then (fh_gi σ26 2 k17 1).bind fun v28 => (fh_gi σ26 2 k19 1).bind fun v29 => if v28 = v29 then fh_cb (f_X2_hasPart k17 a3 a6 σ26) fun r31 σ30 => fh_jn (f_X4_copy_J103 k1) (fun j35 => if r31 = 0 then j35 σ30 else fh_cb (f_X2_hasPart k19 a5 a6 σ30) fun r37 σ36 => if r37 = 0 then j35 σ36 else (fh_gr 2 k17 0).bind fun k38 => (fh_gr 2 k19 0).bind fun k39 => (fh_cp σ36 k38 a3 k39 a5 a6).bind fun σ40 => some (a6, σ40)) else fh_cb (f_X4_tell k1 ((-1000003 : Int32)) σ26) fun r42 σ41 => some (r42, σ41) else j25 σ26 else j25 σ20)))
abbrev rm_X4_copy : Room := { frames := 2, cells := 0, slots := 0, locals := 60 }
theorem pd_X4_copy : yX4_copy.cls ≠ "java/lang/invoke/MethodHandle" ∧ yX4_copy.cls ≠ "java/lang/invoke/VarHandle" ∧ (parseMethodDescriptor yX4_copy.desc).map (fun d => d.parameters.length) = some 5 := by decide +kernel
theorem dX4_copy_0 : decode cX4_copy 0 = .ok (.iload_n 1, 1) := by decide +kernel
theorem dX4_copy_1 : decode cX4_copy 1 = .ok (.invokestatic 232, 3) := by decide +kernel
theorem dX4_copy_4 : decode cX4_copy 4 = .ok (.ifCond .eq 10, 3) := by decide +kernel
theorem dX4_copy_7 : decode cX4_copy 7 = .ok (.iload_n 3, 1) := by decide +kernel
theorem dX4_copy_8 : decode cX4_copy 8 = .ok (.invokestatic 232, 3) := by decide +kernel
theorem dX4_copy_11 : decode cX4_copy 11 = .ok (.ifCond .ne 10, 3) := by decide +kernel
theorem dX4_copy_14 : decode cX4_copy 14 = .ok (.aload_n 0, 1) := by decide +kernel
theorem dX4_copy_15 : decode cX4_copy 15 = .ok (.ldc 57, 2) := by decide +kernel
theorem dX4_copy_17 : decode cX4_copy 17 = .ok (.invokevirtual 58, 3) := by decide +kernel
theorem dX4_copy_20 : decode cX4_copy 20 = .ok (.ireturn, 1) := by decide +kernel
theorem dX4_copy_21 : decode cX4_copy 21 = .ok (.aload_n 0, 1) := by decide +kernel
theorem dX4_copy_22 : decode cX4_copy 22 = .ok (.getfield 40, 3) := by decide +kernel
theorem dX4_copy_25 : decode cX4_copy 25 = .ok (.iload_n 1, 1) := by decide +kernel
theorem dX4_copy_26 : decode cX4_copy 26 = .ok (.aaload, 1) := by decide +kernel
theorem dX4_copy_27 : decode cX4_copy 27 = .ok (.astore 6, 2) := by decide +kernel
theorem dX4_copy_29 : decode cX4_copy 29 = .ok (.aload_n 0, 1) := by decide +kernel
theorem dX4_copy_30 : decode cX4_copy 30 = .ok (.getfield 40, 3) := by decide +kernel
theorem dX4_copy_33 : decode cX4_copy 33 = .ok (.iload_n 3, 1) := by decide +kernel
theorem dX4_copy_34 : decode cX4_copy 34 = .ok (.aaload, 1) := by decide +kernel
theorem dX4_copy_35 : decode cX4_copy 35 = .ok (.astore 7, 2) := by decide +kernel
theorem dX4_copy_37 : decode cX4_copy 37 = .ok (.aload 6, 2) := by decide +kernel
theorem dX4_copy_39 : decode cX4_copy 39 = .ok (.invokevirtual 243, 3) := by decide +kernel
theorem dX4_copy_42 : decode cX4_copy 42 = .ok (.ifCond .ne 11, 3) := by decide +kernel
theorem dX4_copy_45 : decode cX4_copy 45 = .ok (.aload 7, 2) := by decide +kernel
theorem dX4_copy_47 : decode cX4_copy 47 = .ok (.invokevirtual 243, 3) := by decide +kernel
theorem dX4_copy_50 : decode cX4_copy 50 = .ok (.ifCond .eq 10, 3) := by decide +kernel
theorem dX4_copy_53 : decode cX4_copy 53 = .ok (.aload_n 0, 1) := by decide +kernel
theorem dX4_copy_54 : decode cX4_copy 54 = .ok (.ldc 227, 2) := by decide +kernel
theorem dX4_copy_56 : decode cX4_copy 56 = .ok (.invokevirtual 58, 3) := by decide +kernel
theorem dX4_copy_59 : decode cX4_copy 59 = .ok (.ireturn, 1) := by decide +kernel
theorem dX4_copy_60 : decode cX4_copy 60 = .ok (.aload 6, 2) := by decide +kernel
theorem dX4_copy_62 : decode cX4_copy 62 = .ok (.getfield 246, 3) := by decide +kernel
theorem dX4_copy_65 : decode cX4_copy 65 = .ok (.aload 7, 2) := by decide +kernel
theorem dX4_copy_67 : decode cX4_copy 67 = .ok (.getfield 246, 3) := by decide +kernel
theorem dX4_copy_70 : decode cX4_copy 70 = .ok (.if_icmp .eq 10, 3) := by decide +kernel
theorem dX4_copy_73 : decode cX4_copy 73 = .ok (.aload_n 0, 1) := by decide +kernel
theorem dX4_copy_74 : decode cX4_copy 74 = .ok (.ldc 231, 2) := by decide +kernel
theorem dX4_copy_76 : decode cX4_copy 76 = .ok (.invokevirtual 58, 3) := by decide +kernel
theorem dX4_copy_79 : decode cX4_copy 79 = .ok (.ireturn, 1) := by decide +kernel
theorem dX4_copy_80 : decode cX4_copy 80 = .ok (.aload 6, 2) := by decide +kernel
theorem dX4_copy_82 : decode cX4_copy 82 = .ok (.iload_n 2, 1) := by decide +kernel
theorem dX4_copy_83 : decode cX4_copy 83 = .ok (.iload 5, 2) := by decide +kernel
theorem dX4_copy_85 : decode cX4_copy 85 = .ok (.invokevirtual 249, 3) := by decide +kernel
theorem dX4_copy_88 : decode cX4_copy 88 = .ok (.ifCond .eq 15, 3) := by decide +kernel
theorem dX4_copy_91 : decode cX4_copy 91 = .ok (.aload 7, 2) := by decide +kernel
theorem dX4_copy_93 : decode cX4_copy 93 = .ok (.iload 4, 2) := by decide +kernel
theorem dX4_copy_95 : decode cX4_copy 95 = .ok (.iload 5, 2) := by decide +kernel
theorem dX4_copy_97 : decode cX4_copy 97 = .ok (.invokevirtual 249, 3) := by decide +kernel
theorem dX4_copy_100 : decode cX4_copy 100 = .ok (.ifCond .ne 10, 3) := by decide +kernel
theorem dX4_copy_103 : decode cX4_copy 103 = .ok (.aload_n 0, 1) := by decide +kernel
theorem dX4_copy_104 : decode cX4_copy 104 = .ok (.ldc 57, 2) := by decide +kernel
theorem dX4_copy_106 : decode cX4_copy 106 = .ok (.invokevirtual 58, 3) := by decide +kernel
theorem dX4_copy_109 : decode cX4_copy 109 = .ok (.ireturn, 1) := by decide +kernel
theorem dX4_copy_110 : decode cX4_copy 110 = .ok (.aload 6, 2) := by decide +kernel
theorem dX4_copy_112 : decode cX4_copy 112 = .ok (.getfield 252, 3) := by decide +kernel
theorem dX4_copy_115 : decode cX4_copy 115 = .ok (.iload_n 2, 1) := by decide +kernel
theorem dX4_copy_116 : decode cX4_copy 116 = .ok (.aload 7, 2) := by decide +kernel
theorem dX4_copy_118 : decode cX4_copy 118 = .ok (.getfield 252, 3) := by decide +kernel
theorem dX4_copy_121 : decode cX4_copy 121 = .ok (.iload 4, 2) := by decide +kernel
theorem dX4_copy_123 : decode cX4_copy 123 = .ok (.iload 5, 2) := by decide +kernel
theorem dX4_copy_125 : decode cX4_copy 125 = .ok (.invokestatic 255, 3) := by decide +kernel
theorem dX4_copy_128 : decode cX4_copy 128 = .ok (.iload 5, 2) := by decide +kernel
theorem dX4_copy_130 : decode cX4_copy 130 = .ok (.ireturn, 1) := by decide +kernel
set_option maxHeartbeats 4000000 in
set_option maxRecDepth 100000 in
theorem g_X4_copy {E : fh_E} {M : fh_M} (C : fh_Cx E M cX4_copy 8 RX4 ((some FieldType.int)) rm_X4_copy) (Hr : fh_Rt E M) (k1 : Nat) (a2 : Int32) (a3 : Int32) (a4 : Int32) (a5 : Int32) (a6 : Int32) (σ7 : fh_S) : fh_Go E M 8 fh_vI 0 [(0, .ref (fh_ad E k1)), (1, .int a2), (2, .int a3), (3, .int a4), (4, .int a5), (5, .int a6)] [] σ7 (f_X4_copy k1 a2 a3 a4 a5 a6 σ7) := by
  have hok := fh_cok C
  refine go_ob ?_
  refine go_iload_n C 1 rfl rfl dX4_copy_0 ?_
  refine go_callSI C (st := []) [.int a2] (m_X4_isSheet E _ hok a2 σ7) rfl ⟨q_450, q_451, q_1, q_452⟩ pd_X4_isSheet rfl ⟨⟨Nat.le_of_ble_eq_true rfl, Nat.le_of_ble_eq_true rfl⟩, rfl, rfl⟩ (Nat.le_of_ble_eq_true rfl) dX4_copy_1 (fun r9 σ8 => ?_)
  refine go_jn (fun (j13 : fh_S → Option (Int32 × fh_S)) => ∀ (σ10 : fh_S), fh_Go E M 8 fh_vI 14 [(0, .ref (fh_ad E k1))] [] σ10 (j13 σ10)) ?_ (fun j13 hj13 => ?_)
  · intro σ10
    refine go_aload_n C 0 rfl rfl dX4_copy_14 ?_
    refine go_ldc C q_175 dX4_copy_15 ?_
    refine go_callVI C (st := []) [.int ((-1000001 : Int32))] (m_X4_tell E _ hok k1 ((-1000001 : Int32)) σ10) (fun _ h => fh_ob_ok h) rfl rfl ⟨q_176, q_178, qs_0, q_1, q_179⟩ pd_X4_tell rfl ⟨⟨Nat.le_of_ble_eq_true rfl, Nat.le_of_ble_eq_true rfl⟩, rfl, rfl⟩ (Nat.le_of_ble_eq_true rfl) dX4_copy_17 (fun r12 σ11 => ?_)
    exact go_iret C Hr rfl dX4_copy_20
  refine go_if_eq (tgt := 14) C dX4_copy_4 rfl (fun _ => ?_) (fun _ => ?_)
  · refine go_lv [0] (lv' := [(0, .ref (fh_ad E k1))]) rfl ?_
    exact hj13 σ8
  · refine go_iload_n C 3 rfl rfl dX4_copy_7 ?_
    refine go_callSI C (st := []) [.int a4] (m_X4_isSheet E _ hok a4 σ8) rfl ⟨q_450, q_451, q_1, q_452⟩ pd_X4_isSheet rfl ⟨⟨Nat.le_of_ble_eq_true rfl, Nat.le_of_ble_eq_true rfl⟩, rfl, rfl⟩ (Nat.le_of_ble_eq_true rfl) dX4_copy_8 (fun r15 σ14 => ?_)
    refine go_if_ne (tgt := 21) C dX4_copy_11 rfl (fun _ => ?_) (fun _ => ?_)
    · refine go_aload_n C 0 rfl rfl dX4_copy_21 ?_
      refine go_gr (ci := 4) (j := 5) C fh_in4 rfl (by decide) rfl q_143 dX4_copy_22 (fun k16 => ?_)
      refine go_iload_n C 1 rfl rfl dX4_copy_25 ?_
      refine go_aald C dX4_copy_26 (fun k17 => ?_)
      refine go_astore C [(6, .ref (fh_ad E k17)), (0, .ref (fh_ad E k1)), (1, .int a2), (2, .int a3), (3, .int a4), (4, .int a5), (5, .int a6)] rfl (by decide) dX4_copy_27 ?_
      refine go_aload_n C 1 rfl rfl dX4_copy_29 ?_
      refine go_gr (ci := 4) (j := 5) C fh_in4 rfl (by decide) rfl q_143 dX4_copy_30 (fun k18 => ?_)
      refine go_iload_n C 4 rfl rfl dX4_copy_33 ?_
      refine go_aald C dX4_copy_34 (fun k19 => ?_)
      refine go_astore C [(7, .ref (fh_ad E k19)), (6, .ref (fh_ad E k17)), (0, .ref (fh_ad E k1)), (1, .int a2), (2, .int a3), (3, .int a4), (4, .int a5), (5, .int a6)] rfl (by decide) dX4_copy_35 ?_
      refine go_aload C 1 rfl dX4_copy_37 ?_
      refine go_callVI C (st := []) [] (m_X2_isMissing E _ hok k17 σ14) (fun _ h => fh_ob_ok h) rfl rfl ⟨q_453, q_454, q_455, q_5, q_456⟩ pd_X2_isMissing rfl ⟨⟨Nat.le_of_ble_eq_true rfl, Nat.le_of_ble_eq_true rfl⟩, rfl, rfl⟩ (Nat.le_of_ble_eq_true rfl) dX4_copy_39 (fun r21 σ20 => ?_)
      refine go_jn (fun (j25 : fh_S → Option (Int32 × fh_S)) => ∀ (σ22 : fh_S), fh_Go E M 8 fh_vI 53 [(0, .ref (fh_ad E k1))] [] σ22 (j25 σ22)) ?_ (fun j25 hj25 => ?_)
      · intro σ22
        refine go_aload_n C 0 rfl rfl dX4_copy_53 ?_
        refine go_ldc C q_457 dX4_copy_54 ?_
        refine go_callVI C (st := []) [.int ((-1000006 : Int32))] (m_X4_tell E _ hok k1 ((-1000006 : Int32)) σ22) (fun _ h => fh_ob_ok h) rfl rfl ⟨q_176, q_178, qs_0, q_1, q_179⟩ pd_X4_tell rfl ⟨⟨Nat.le_of_ble_eq_true rfl, Nat.le_of_ble_eq_true rfl⟩, rfl, rfl⟩ (Nat.le_of_ble_eq_true rfl) dX4_copy_56 (fun r24 σ23 => ?_)
        exact go_iret C Hr rfl dX4_copy_59
      refine go_if_ne (tgt := 53) C dX4_copy_42 rfl (fun _ => ?_) (fun _ => ?_)
      · refine go_lv [2] (lv' := [(0, .ref (fh_ad E k1))]) rfl ?_
        exact hj25 σ20
      · refine go_aload C 0 rfl dX4_copy_45 ?_
        refine go_callVI C (st := []) [] (m_X2_isMissing E _ hok k19 σ20) (fun _ h => fh_ob_ok h) rfl rfl ⟨q_453, q_454, q_455, q_5, q_456⟩ pd_X2_isMissing rfl ⟨⟨Nat.le_of_ble_eq_true rfl, Nat.le_of_ble_eq_true rfl⟩, rfl, rfl⟩ (Nat.le_of_ble_eq_true rfl) dX4_copy_47 (fun r27 σ26 => ?_)
        refine go_if_eq (tgt := 60) C dX4_copy_50 rfl (fun _ => ?_) (fun _ => ?_)
        · refine go_aload C 1 rfl dX4_copy_60 ?_
          refine go_gi (ci := 2) (j := 1) C fh_in2 rfl (by decide) rfl q_128 dX4_copy_62 (fun v28 => ?_)
          refine go_aload C 0 rfl dX4_copy_65 ?_
          refine go_gi (ci := 2) (j := 1) C fh_in2 rfl (by decide) rfl q_128 dX4_copy_67 (fun v29 => ?_)
          refine go_icmp_eq (tgt := 80) C dX4_copy_70 rfl (fun _ => ?_) (fun _ => ?_)
          · refine go_aload C 1 rfl dX4_copy_80 ?_
            refine go_iload_n C 4 rfl rfl dX4_copy_82 ?_
            refine go_iload C 7 rfl dX4_copy_83 ?_
            refine go_callVI C (st := []) [.int a3, .int a6] (m_X2_hasPart E _ hok k17 a3 a6 σ26) (fun _ h => fh_ob_ok h) rfl rfl ⟨q_694, q_695, q_696, q_5, q_697⟩ pd_X2_hasPart rfl ⟨⟨Nat.le_of_ble_eq_true rfl, Nat.le_of_ble_eq_true rfl⟩, rfl, rfl⟩ (Nat.le_of_ble_eq_true rfl) dX4_copy_85 (fun r31 σ30 => ?_)
            refine go_jn (fun (j35 : fh_S → Option (Int32 × fh_S)) => ∀ (σ32 : fh_S), fh_Go E M 8 fh_vI 103 [(0, .ref (fh_ad E k1))] [] σ32 (j35 σ32)) ?_ (fun j35 hj35 => ?_)
            · intro σ32
              refine go_aload_n C 0 rfl rfl dX4_copy_103 ?_
              refine go_ldc C q_175 dX4_copy_104 ?_
              refine go_callVI C (st := []) [.int ((-1000001 : Int32))] (m_X4_tell E _ hok k1 ((-1000001 : Int32)) σ32) (fun _ h => fh_ob_ok h) rfl rfl ⟨q_176, q_178, qs_0, q_1, q_179⟩ pd_X4_tell rfl ⟨⟨Nat.le_of_ble_eq_true rfl, Nat.le_of_ble_eq_true rfl⟩, rfl, rfl⟩ (Nat.le_of_ble_eq_true rfl) dX4_copy_106 (fun r34 σ33 => ?_)
              exact go_iret C Hr rfl dX4_copy_109
            refine go_if_eq (tgt := 103) C dX4_copy_88 rfl (fun _ => ?_) (fun _ => ?_)
            · refine go_lv [2] (lv' := [(0, .ref (fh_ad E k1))]) rfl ?_
              exact hj35 σ30
            · refine go_aload C 0 rfl dX4_copy_91 ?_
              refine go_iload C 6 rfl dX4_copy_93 ?_
              refine go_iload C 7 rfl dX4_copy_95 ?_
              refine go_callVI C (st := []) [.int a5, .int a6] (m_X2_hasPart E _ hok k19 a5 a6 σ30) (fun _ h => fh_ob_ok h) rfl rfl ⟨q_694, q_695, q_696, q_5, q_697⟩ pd_X2_hasPart rfl ⟨⟨Nat.le_of_ble_eq_true rfl, Nat.le_of_ble_eq_true rfl⟩, rfl, rfl⟩ (Nat.le_of_ble_eq_true rfl) dX4_copy_97 (fun r37 σ36 => ?_)
              refine go_if_ne (tgt := 110) C dX4_copy_100 rfl (fun _ => ?_) (fun _ => ?_)
              · refine go_aload C 1 rfl dX4_copy_110 ?_
                refine go_gr (ci := 2) (j := 0) C fh_in2 rfl (by decide) rfl q_126 dX4_copy_112 (fun k38 => ?_)
                refine go_iload_n C 4 rfl rfl dX4_copy_115 ?_
                refine go_aload C 0 rfl dX4_copy_116 ?_
                refine go_gr (ci := 2) (j := 0) C fh_in2 rfl (by decide) rfl q_126 dX4_copy_118 (fun k39 => ?_)
                refine go_iload C 6 rfl dX4_copy_121 ?_
                refine go_iload C 7 rfl dX4_copy_123 ?_
                refine go_cp C ⟨q_698, q_384, q_383, q_9⟩ ⟨Nat.le_of_ble_eq_true rfl, Nat.le_of_ble_eq_true rfl⟩ dX4_copy_125 (fun σ40 => ?_)
                refine go_iload C 7 rfl dX4_copy_128 ?_
                exact go_iret C Hr rfl dX4_copy_130
              · refine go_lv [2] (lv' := [(0, .ref (fh_ad E k1))]) rfl ?_
                exact hj35 σ36
          · refine go_aload_n C 2 rfl rfl dX4_copy_73 ?_
            refine go_ldc C q_672 dX4_copy_74 ?_
            refine go_callVI C (st := []) [.int ((-1000003 : Int32))] (m_X4_tell E _ hok k1 ((-1000003 : Int32)) σ26) (fun _ h => fh_ob_ok h) rfl rfl ⟨q_176, q_178, qs_0, q_1, q_179⟩ pd_X4_tell rfl ⟨⟨Nat.le_of_ble_eq_true rfl, Nat.le_of_ble_eq_true rfl⟩, rfl, rfl⟩ (Nat.le_of_ble_eq_true rfl) dX4_copy_76 (fun r42 σ41 => ?_)
            exact go_iret C Hr rfl dX4_copy_79
        · refine go_lv [2] (lv' := [(0, .ref (fh_ad E k1))]) rfl ?_
          exact hj25 σ26
    · refine go_lv [0] (lv' := [(0, .ref (fh_ad E k1))]) rfl ?_
      exact hj13 σ14
theorem m_X4_copy (E : fh_E) (l : Launch) (hok : fh_ok E) (k1 : Nat) (a2 : Int32) (a3 : Int32) (a4 : Int32) (a5 : Int32) (a6 : Int32) (σ7 : fh_S) : fh_Met E l yX4_copy cX4_copy 8 ((some FieldType.int)) rm_X4_copy fh_vI [.ref (fh_ad E k1), .int a2, .int a3, .int a4, .int a5, .int a6] σ7 (f_X4_copy k1 a2 a3 a4 a5 a6 σ7) := fh_met hok (by decide +kernel) (Nat.le_of_ble_eq_true rfl) (fun M _ C Hr => g_X4_copy C Hr k1 a2 a3 a4 a5 a6 σ7)
def f_X4_load_B39 (r12 : Int32) (k1 : Nat) (a2 : Int32) (r15 : Int32 → fh_S → Option (Int32 × fh_S)) : Int32 → fh_S → Option (Int32 × fh_S) := fun x13 σ14 => if r12 ≤ x13 then some (r12, σ14) else (fh_gr 4 k1 5).bind fun k16 => (fh_lr k16 a2).bind fun k17 => (fh_gr 2 k17 0).bind fun k18 => (fh_ld σ14 k18 x13).bind fun v19 => fh_cb (f_X4_isHour v19 σ14) fun r21 σ20 => if r21 = 0 then some (x13, σ20) else (fh_gr 4 k1 0).bind fun k22 => (fh_gr 0 k22 1).bind fun k23 => (fh_gr 4 k1 5).bind fun k24 => (fh_lr k24 a2).bind fun k25 => (fh_gr 2 k25 0).bind fun k26 => (fh_ld σ20 k26 x13).bind fun v27 => (fh_st σ20 k23 x13 v27).bind fun σ28 => r15 (x13 + 1) σ28
def f_X4_load (k1 : Nat) (a2 : Int32) (σ3 : fh_S) : Option (Int32 × fh_S) := fh_ob 4 k1 (fh_cb (f_X4_findingOfSheet k1 a2 σ3) fun r5 σ4 => if r5 = 0 then (fh_gr 4 k1 5).bind fun k6 => (fh_lr k6 a2).bind fun k7 => (fh_gi σ4 2 k7 2).bind fun v8 => (fh_gr 4 k1 0).bind fun k9 => (fh_gi σ4 0 k9 9).bind fun v10 => fh_cb (f_J9_min_7cf53 v8 v10 σ4) fun r12 σ11 => fh_fx (ρ := Int32 → fh_S → Option (Int32 × fh_S)) (fun _ _ => none) (f_X4_load_B39 r12 k1 a2) fh_fu ((0 : Int32)) σ11 else fh_cb (f_X4_tell k1 r5 σ4) fun r30 σ29 => some (r30, σ29))
abbrev rm_X4_load : Room := { frames := 3, cells := 0, slots := 0, locals := 63 }
theorem pd_X4_load : yX4_load.cls ≠ "java/lang/invoke/MethodHandle" ∧ yX4_load.cls ≠ "java/lang/invoke/VarHandle" ∧ (parseMethodDescriptor yX4_load.desc).map (fun d => d.parameters.length) = some 1 := by decide +kernel
theorem dX4_load_0 : decode cX4_load 0 = .ok (.aload_n 0, 1) := by decide +kernel
theorem dX4_load_1 : decode cX4_load 1 = .ok (.iload_n 1, 1) := by decide +kernel
theorem dX4_load_2 : decode cX4_load 2 = .ok (.invokevirtual 187, 3) := by decide +kernel
theorem dX4_load_5 : decode cX4_load 5 = .ok (.istore_n 2, 1) := by decide +kernel
theorem dX4_load_6 : decode cX4_load 6 = .ok (.iload_n 2, 1) := by decide +kernel
theorem dX4_load_7 : decode cX4_load 7 = .ok (.ifCond .eq 9, 3) := by decide +kernel
theorem dX4_load_10 : decode cX4_load 10 = .ok (.aload_n 0, 1) := by decide +kernel
theorem dX4_load_11 : decode cX4_load 11 = .ok (.iload_n 2, 1) := by decide +kernel
theorem dX4_load_12 : decode cX4_load 12 = .ok (.invokevirtual 58, 3) := by decide +kernel
theorem dX4_load_15 : decode cX4_load 15 = .ok (.ireturn, 1) := by decide +kernel
theorem dX4_load_16 : decode cX4_load 16 = .ok (.aload_n 0, 1) := by decide +kernel
theorem dX4_load_17 : decode cX4_load 17 = .ok (.getfield 40, 3) := by decide +kernel
theorem dX4_load_20 : decode cX4_load 20 = .ok (.iload_n 1, 1) := by decide +kernel
theorem dX4_load_21 : decode cX4_load 21 = .ok (.aaload, 1) := by decide +kernel
theorem dX4_load_22 : decode cX4_load 22 = .ok (.getfield 239, 3) := by decide +kernel
theorem dX4_load_25 : decode cX4_load 25 = .ok (.aload_n 0, 1) := by decide +kernel
theorem dX4_load_26 : decode cX4_load 26 = .ok (.getfield 12, 3) := by decide +kernel
theorem dX4_load_29 : decode cX4_load 29 = .ok (.getfield 136, 3) := by decide +kernel
theorem dX4_load_32 : decode cX4_load 32 = .ok (.invokestatic 261, 3) := by decide +kernel
theorem dX4_load_35 : decode cX4_load 35 = .ok (.istore_n 3, 1) := by decide +kernel
theorem dX4_load_36 : decode cX4_load 36 = .ok (.iconst 0, 1) := by decide +kernel
theorem dX4_load_37 : decode cX4_load 37 = .ok (.istore 4, 2) := by decide +kernel
theorem dX4_load_39 : decode cX4_load 39 = .ok (.iload 4, 2) := by decide +kernel
theorem dX4_load_41 : decode cX4_load 41 = .ok (.iload_n 3, 1) := by decide +kernel
theorem dX4_load_42 : decode cX4_load 42 = .ok (.if_icmp .ge 52, 3) := by decide +kernel
theorem dX4_load_45 : decode cX4_load 45 = .ok (.aload_n 0, 1) := by decide +kernel
theorem dX4_load_46 : decode cX4_load 46 = .ok (.getfield 40, 3) := by decide +kernel
theorem dX4_load_49 : decode cX4_load 49 = .ok (.iload_n 1, 1) := by decide +kernel
theorem dX4_load_50 : decode cX4_load 50 = .ok (.aaload, 1) := by decide +kernel
theorem dX4_load_51 : decode cX4_load 51 = .ok (.getfield 252, 3) := by decide +kernel
theorem dX4_load_54 : decode cX4_load 54 = .ok (.iload 4, 2) := by decide +kernel
theorem dX4_load_56 : decode cX4_load 56 = .ok (.iaload, 1) := by decide +kernel
theorem dX4_load_57 : decode cX4_load 57 = .ok (.invokestatic 158, 3) := by decide +kernel
theorem dX4_load_60 : decode cX4_load 60 = .ok (.ifCond .ne 6, 3) := by decide +kernel
theorem dX4_load_63 : decode cX4_load 63 = .ok (.iload 4, 2) := by decide +kernel
theorem dX4_load_65 : decode cX4_load 65 = .ok (.ireturn, 1) := by decide +kernel
theorem dX4_load_66 : decode cX4_load 66 = .ok (.aload_n 0, 1) := by decide +kernel
theorem dX4_load_67 : decode cX4_load 67 = .ok (.getfield 12, 3) := by decide +kernel
theorem dX4_load_70 : decode cX4_load 70 = .ok (.getfield 92, 3) := by decide +kernel
theorem dX4_load_73 : decode cX4_load 73 = .ok (.iload 4, 2) := by decide +kernel
theorem dX4_load_75 : decode cX4_load 75 = .ok (.aload_n 0, 1) := by decide +kernel
theorem dX4_load_76 : decode cX4_load 76 = .ok (.getfield 40, 3) := by decide +kernel
theorem dX4_load_79 : decode cX4_load 79 = .ok (.iload_n 1, 1) := by decide +kernel
theorem dX4_load_80 : decode cX4_load 80 = .ok (.aaload, 1) := by decide +kernel
theorem dX4_load_81 : decode cX4_load 81 = .ok (.getfield 252, 3) := by decide +kernel
theorem dX4_load_84 : decode cX4_load 84 = .ok (.iload 4, 2) := by decide +kernel
theorem dX4_load_86 : decode cX4_load 86 = .ok (.iaload, 1) := by decide +kernel
theorem dX4_load_87 : decode cX4_load 87 = .ok (.iastore, 1) := by decide +kernel
theorem dX4_load_88 : decode cX4_load 88 = .ok (.iinc 4 1, 3) := by decide +kernel
theorem dX4_load_91 : decode cX4_load 91 = .ok (.goto (-52), 3) := by decide +kernel
theorem dX4_load_94 : decode cX4_load 94 = .ok (.iload_n 3, 1) := by decide +kernel
theorem dX4_load_95 : decode cX4_load 95 = .ok (.ireturn, 1) := by decide +kernel
set_option maxHeartbeats 4000000 in
set_option maxRecDepth 100000 in
theorem g_X4_load {E : fh_E} {M : fh_M} (C : fh_Cx E M cX4_load 5 RX4 ((some FieldType.int)) rm_X4_load) (Hr : fh_Rt E M) (k1 : Nat) (a2 : Int32) (σ3 : fh_S) : fh_Go E M 5 fh_vI 0 [(0, .ref (fh_ad E k1)), (1, .int a2)] [] σ3 (f_X4_load k1 a2 σ3) := by
  have hok := fh_cok C
  refine go_ob ?_
  refine go_aload_n C 0 rfl rfl dX4_load_0 ?_
  refine go_iload_n C 1 rfl rfl dX4_load_1 ?_
  refine go_callVI C (st := []) [.int a2] (m_X4_findingOfSheet E _ hok k1 a2 σ3) (fun _ h => fh_ob_ok h) rfl rfl ⟨q_446, q_448, qs_5, q_1, q_449⟩ pd_X4_findingOfSheet rfl ⟨⟨Nat.le_of_ble_eq_true rfl, Nat.le_of_ble_eq_true rfl⟩, rfl, rfl⟩ (Nat.le_of_ble_eq_true rfl) dX4_load_2 (fun r5 σ4 => ?_)
  refine go_istore_n C [(2, .int r5), (0, .ref (fh_ad E k1)), (1, .int a2)] rfl rfl (by decide) dX4_load_5 ?_
  refine go_iload_n C 0 rfl rfl dX4_load_6 ?_
  refine go_if_eq (tgt := 16) C dX4_load_7 rfl (fun _ => ?_) (fun _ => ?_)
  · refine go_aload_n C 1 rfl rfl dX4_load_16 ?_
    refine go_gr (ci := 4) (j := 5) C fh_in4 rfl (by decide) rfl q_143 dX4_load_17 (fun k6 => ?_)
    refine go_iload_n C 2 rfl rfl dX4_load_20 ?_
    refine go_aald C dX4_load_21 (fun k7 => ?_)
    refine go_gi (ci := 2) (j := 2) C fh_in2 rfl (by decide) rfl q_130 dX4_load_22 (fun v8 => ?_)
    refine go_aload_n C 1 rfl rfl dX4_load_25 ?_
    refine go_gr (ci := 4) (j := 0) C fh_in4 rfl (by decide) rfl q_138 dX4_load_26 (fun k9 => ?_)
    refine go_gi (ci := 0) (j := 9) C fh_in0 rfl (by decide) rfl q_48 dX4_load_29 (fun v10 => ?_)
    refine go_callSI C (st := []) [.int v8, .int v10] (m_J9_min_7cf53 E _ hok v8 v10 σ4) rfl ⟨q_473, q_190, q_7, q_191⟩ pd_J9_min_7cf53 rfl ⟨⟨Nat.le_of_ble_eq_true rfl, Nat.le_of_ble_eq_true rfl⟩, rfl, rfl⟩ (Nat.le_of_ble_eq_true rfl) dX4_load_32 (fun r12 σ11 => ?_)
    refine go_istore_n C [(3, .int r12), (2, .int r5), (0, .ref (fh_ad E k1)), (1, .int a2)] rfl rfl (by decide) dX4_load_35 ?_
    refine go_iconst C (0 : Int32) dX4_load_36 rfl ?_
    refine go_istore C [(4, .int ((0 : Int32))), (3, .int r12), (2, .int r5), (0, .ref (fh_ad E k1)), (1, .int a2)] rfl (by decide) dX4_load_37 ?_
    refine go_lv [3, 4, 1, 0] (lv' := [(0, .ref (fh_ad E k1)), (1, .int a2), (3, .int r12), (4, .int ((0 : Int32)))]) rfl ?_
    refine go_fx (fun (r15 : Int32 → fh_S → Option (Int32 × fh_S)) => ∀ (x13 : Int32) (σ14 : fh_S), fh_Go E M 5 fh_vI 39 [(0, .ref (fh_ad E k1)), (1, .int a2), (3, .int r12), (4, .int x13)] [] σ14 (r15 x13 σ14)) ?_ ?_ fh_fu ((0 : Int32)) σ11
    · intro x13 σ14
      exact go_none
    · intro r15 hr15 x13 σ14
      refine go_iload C 3 rfl dX4_load_39 ?_
      refine go_iload_n C 2 rfl rfl dX4_load_41 ?_
      refine go_icmp_ge (tgt := 94) C dX4_load_42 rfl (fun _ => ?_) (fun _ => ?_)
      · refine go_iload_n C 2 rfl rfl dX4_load_94 ?_
        exact go_iret C Hr rfl dX4_load_95
      · refine go_aload_n C 0 rfl rfl dX4_load_45 ?_
        refine go_gr (ci := 4) (j := 5) C fh_in4 rfl (by decide) rfl q_143 dX4_load_46 (fun k16 => ?_)
        refine go_iload_n C 1 rfl rfl dX4_load_49 ?_
        refine go_aald C dX4_load_50 (fun k17 => ?_)
        refine go_gr (ci := 2) (j := 0) C fh_in2 rfl (by decide) rfl q_126 dX4_load_51 (fun k18 => ?_)
        refine go_iload C 3 rfl dX4_load_54 ?_
        refine go_iald C dX4_load_56 (fun v19 => ?_)
        refine go_callSI C (st := []) [.int v19] (m_X4_isHour E _ hok v19 σ14) rfl ⟨q_393, q_231, q_1, q_232⟩ pd_X4_isHour rfl ⟨⟨Nat.le_of_ble_eq_true rfl, Nat.le_of_ble_eq_true rfl⟩, rfl, rfl⟩ (Nat.le_of_ble_eq_true rfl) dX4_load_57 (fun r21 σ20 => ?_)
        refine go_if_ne (tgt := 66) C dX4_load_60 rfl (fun _ => ?_) (fun _ => ?_)
        · refine go_aload_n C 0 rfl rfl dX4_load_66 ?_
          refine go_gr (ci := 4) (j := 0) C fh_in4 rfl (by decide) rfl q_138 dX4_load_67 (fun k22 => ?_)
          refine go_gr (ci := 0) (j := 1) C fh_in0 rfl (by decide) rfl q_32 dX4_load_70 (fun k23 => ?_)
          refine go_iload C 3 rfl dX4_load_73 ?_
          refine go_aload_n C 0 rfl rfl dX4_load_75 ?_
          refine go_gr (ci := 4) (j := 5) C fh_in4 rfl (by decide) rfl q_143 dX4_load_76 (fun k24 => ?_)
          refine go_iload_n C 1 rfl rfl dX4_load_79 ?_
          refine go_aald C dX4_load_80 (fun k25 => ?_)
          refine go_gr (ci := 2) (j := 0) C fh_in2 rfl (by decide) rfl q_126 dX4_load_81 (fun k26 => ?_)
          refine go_iload C 3 rfl dX4_load_84 ?_
          refine go_iald C dX4_load_86 (fun v27 => ?_)
          refine go_iast C dX4_load_87 (fun σ28 => ?_)
          refine go_iinc C (x13 + 1) 3 [(4, .int (x13 + 1)), (0, .ref (fh_ad E k1)), (1, .int a2), (3, .int r12)] rfl rfl rfl (by decide) dX4_load_88 ?_
          refine go_goto C 39 dX4_load_91 rfl ?_
          refine go_lv [1, 2, 3, 0] (lv' := [(0, .ref (fh_ad E k1)), (1, .int a2), (3, .int r12), (4, .int (x13 + 1))]) rfl ?_
          exact hr15 (x13 + 1) σ28
        · refine go_iload C 3 rfl dX4_load_63 ?_
          exact go_iret C Hr rfl dX4_load_65
  · refine go_aload_n C 1 rfl rfl dX4_load_10 ?_
    refine go_iload_n C 0 rfl rfl dX4_load_11 ?_
    refine go_callVI C (st := []) [.int r5] (m_X4_tell E _ hok k1 r5 σ4) (fun _ h => fh_ob_ok h) rfl rfl ⟨q_176, q_178, qs_0, q_1, q_179⟩ pd_X4_tell rfl ⟨⟨Nat.le_of_ble_eq_true rfl, Nat.le_of_ble_eq_true rfl⟩, rfl, rfl⟩ (Nat.le_of_ble_eq_true rfl) dX4_load_12 (fun r30 σ29 => ?_)
    exact go_iret C Hr rfl dX4_load_15
theorem m_X4_load (E : fh_E) (l : Launch) (hok : fh_ok E) (k1 : Nat) (a2 : Int32) (σ3 : fh_S) : fh_Met E l yX4_load cX4_load 5 ((some FieldType.int)) rm_X4_load fh_vI [.ref (fh_ad E k1), .int a2] σ3 (f_X4_load k1 a2 σ3) := fh_met hok (by decide +kernel) (Nat.le_of_ble_eq_true rfl) (fun M _ C Hr => g_X4_load C Hr k1 a2 σ3)
def f_X4_judge_J77 (x7 : Int32) (k1 : Nat) (v16 : Int32) (r9 : Int32 → Int32 → fh_S → Option (Int32 × fh_S)) : Int32 → fh_S → Option (Int32 × fh_S) := fun x17 σ18 => if x17 = 0 then some (((1 : Int32)) + x7, σ18) else (fh_gr 4 k1 0).bind fun k19 => (fh_gr 0 k19 2).bind fun k20 => (fh_ld σ18 k20 v16).bind fun v21 => r9 v21 (x7 + 1) σ18
def f_X4_judge_B21 (k1 : Nat) (a2 : Int32) (r9 : Int32 → Int32 → fh_S → Option (Int32 × fh_S)) : Int32 → Int32 → fh_S → Option (Int32 × fh_S) := fun x6 x7 σ8 => (fh_gr 4 k1 5).bind fun k10 => (fh_lr k10 a2).bind fun k11 => (fh_gi σ8 2 k11 2).bind fun v12 => if v12 ≤ x7 then some ((0 : Int32), σ8) else (fh_gr 4 k1 5).bind fun k13 => (fh_lr k13 a2).bind fun k14 => (fh_gr 2 k14 0).bind fun k15 => (fh_ld σ8 k15 x7).bind fun v16 => fh_jn (f_X4_judge_J77 x7 k1 v16 r9) (fun j22 => if x7 = 0 then (fh_gr 4 k1 0).bind fun k23 => fh_cb (f_X0_has k23 v16 σ8) fun r25 σ24 => j22 r25 σ24 else if v16 = x6 then j22 ((1 : Int32)) σ8 else j22 ((0 : Int32)) σ8)
def f_X4_judge (k1 : Nat) (a2 : Int32) (σ3 : fh_S) : Option (Int32 × fh_S) := fh_ob 4 k1 (fh_cb (f_X4_findingOfSheet k1 a2 σ3) fun r5 σ4 => if r5 = 0 then fh_fx (ρ := Int32 → Int32 → fh_S → Option (Int32 × fh_S)) (fun _ _ _ => none) (f_X4_judge_B21 k1 a2) fh_fu ((-1 : Int32)) ((0 : Int32)) σ4 else fh_cb (f_X4_tell k1 r5 σ4) fun r27 σ26 => some (r27, σ26))
abbrev rm_X4_judge : Room := { frames := 3, cells := 0, slots := 0, locals := 63 }
theorem pd_X4_judge : yX4_judge.cls ≠ "java/lang/invoke/MethodHandle" ∧ yX4_judge.cls ≠ "java/lang/invoke/VarHandle" ∧ (parseMethodDescriptor yX4_judge.desc).map (fun d => d.parameters.length) = some 1 := by decide +kernel
theorem dX4_judge_0 : decode cX4_judge 0 = .ok (.aload_n 0, 1) := by decide +kernel
theorem dX4_judge_1 : decode cX4_judge 1 = .ok (.iload_n 1, 1) := by decide +kernel
theorem dX4_judge_2 : decode cX4_judge 2 = .ok (.invokevirtual 187, 3) := by decide +kernel
theorem dX4_judge_5 : decode cX4_judge 5 = .ok (.istore_n 2, 1) := by decide +kernel
theorem dX4_judge_6 : decode cX4_judge 6 = .ok (.iload_n 2, 1) := by decide +kernel
theorem dX4_judge_7 : decode cX4_judge 7 = .ok (.ifCond .eq 9, 3) := by decide +kernel
theorem dX4_judge_10 : decode cX4_judge 10 = .ok (.aload_n 0, 1) := by decide +kernel
theorem dX4_judge_11 : decode cX4_judge 11 = .ok (.iload_n 2, 1) := by decide +kernel
theorem dX4_judge_12 : decode cX4_judge 12 = .ok (.invokevirtual 58, 3) := by decide +kernel
theorem dX4_judge_15 : decode cX4_judge 15 = .ok (.ireturn, 1) := by decide +kernel
theorem dX4_judge_16 : decode cX4_judge 16 = .ok (.iconst (-1), 1) := by decide +kernel
theorem dX4_judge_17 : decode cX4_judge 17 = .ok (.istore_n 3, 1) := by decide +kernel
theorem dX4_judge_18 : decode cX4_judge 18 = .ok (.iconst 0, 1) := by decide +kernel
theorem dX4_judge_19 : decode cX4_judge 19 = .ok (.istore 4, 2) := by decide +kernel
theorem dX4_judge_21 : decode cX4_judge 21 = .ok (.iload 4, 2) := by decide +kernel
theorem dX4_judge_23 : decode cX4_judge 23 = .ok (.aload_n 0, 1) := by decide +kernel
theorem dX4_judge_24 : decode cX4_judge 24 = .ok (.getfield 40, 3) := by decide +kernel
theorem dX4_judge_27 : decode cX4_judge 27 = .ok (.iload_n 1, 1) := by decide +kernel
theorem dX4_judge_28 : decode cX4_judge 28 = .ok (.aaload, 1) := by decide +kernel
theorem dX4_judge_29 : decode cX4_judge 29 = .ok (.getfield 239, 3) := by decide +kernel
theorem dX4_judge_32 : decode cX4_judge 32 = .ok (.if_icmp .ge 74, 3) := by decide +kernel
theorem dX4_judge_35 : decode cX4_judge 35 = .ok (.aload_n 0, 1) := by decide +kernel
theorem dX4_judge_36 : decode cX4_judge 36 = .ok (.getfield 40, 3) := by decide +kernel
theorem dX4_judge_39 : decode cX4_judge 39 = .ok (.iload_n 1, 1) := by decide +kernel
theorem dX4_judge_40 : decode cX4_judge 40 = .ok (.aaload, 1) := by decide +kernel
theorem dX4_judge_41 : decode cX4_judge 41 = .ok (.getfield 252, 3) := by decide +kernel
theorem dX4_judge_44 : decode cX4_judge 44 = .ok (.iload 4, 2) := by decide +kernel
theorem dX4_judge_46 : decode cX4_judge 46 = .ok (.iaload, 1) := by decide +kernel
theorem dX4_judge_47 : decode cX4_judge 47 = .ok (.istore 5, 2) := by decide +kernel
theorem dX4_judge_49 : decode cX4_judge 49 = .ok (.iload 4, 2) := by decide +kernel
theorem dX4_judge_51 : decode cX4_judge 51 = .ok (.ifCond .ne 15, 3) := by decide +kernel
theorem dX4_judge_54 : decode cX4_judge 54 = .ok (.aload_n 0, 1) := by decide +kernel
theorem dX4_judge_55 : decode cX4_judge 55 = .ok (.getfield 12, 3) := by decide +kernel
theorem dX4_judge_58 : decode cX4_judge 58 = .ok (.iload 5, 2) := by decide +kernel
theorem dX4_judge_60 : decode cX4_judge 60 = .ok (.invokevirtual 70, 3) := by decide +kernel
theorem dX4_judge_63 : decode cX4_judge 63 = .ok (.goto 14, 3) := by decide +kernel
theorem dX4_judge_66 : decode cX4_judge 66 = .ok (.iload 5, 2) := by decide +kernel
theorem dX4_judge_68 : decode cX4_judge 68 = .ok (.iload_n 3, 1) := by decide +kernel
theorem dX4_judge_69 : decode cX4_judge 69 = .ok (.if_icmp .ne 7, 3) := by decide +kernel
theorem dX4_judge_72 : decode cX4_judge 72 = .ok (.iconst 1, 1) := by decide +kernel
theorem dX4_judge_73 : decode cX4_judge 73 = .ok (.goto 4, 3) := by decide +kernel
theorem dX4_judge_76 : decode cX4_judge 76 = .ok (.iconst 0, 1) := by decide +kernel
theorem dX4_judge_77 : decode cX4_judge 77 = .ok (.istore 6, 2) := by decide +kernel
theorem dX4_judge_79 : decode cX4_judge 79 = .ok (.iload 6, 2) := by decide +kernel
theorem dX4_judge_81 : decode cX4_judge 81 = .ok (.ifCond .ne 8, 3) := by decide +kernel
theorem dX4_judge_84 : decode cX4_judge 84 = .ok (.iconst 1, 1) := by decide +kernel
theorem dX4_judge_85 : decode cX4_judge 85 = .ok (.iload 4, 2) := by decide +kernel
theorem dX4_judge_87 : decode cX4_judge 87 = .ok (.iadd, 1) := by decide +kernel
theorem dX4_judge_88 : decode cX4_judge 88 = .ok (.ireturn, 1) := by decide +kernel
theorem dX4_judge_89 : decode cX4_judge 89 = .ok (.aload_n 0, 1) := by decide +kernel
theorem dX4_judge_90 : decode cX4_judge 90 = .ok (.getfield 12, 3) := by decide +kernel
theorem dX4_judge_93 : decode cX4_judge 93 = .ok (.getfield 190, 3) := by decide +kernel
theorem dX4_judge_96 : decode cX4_judge 96 = .ok (.iload 5, 2) := by decide +kernel
theorem dX4_judge_98 : decode cX4_judge 98 = .ok (.iaload, 1) := by decide +kernel
theorem dX4_judge_99 : decode cX4_judge 99 = .ok (.istore_n 3, 1) := by decide +kernel
theorem dX4_judge_100 : decode cX4_judge 100 = .ok (.iinc 4 1, 3) := by decide +kernel
theorem dX4_judge_103 : decode cX4_judge 103 = .ok (.goto (-82), 3) := by decide +kernel
theorem dX4_judge_106 : decode cX4_judge 106 = .ok (.iconst 0, 1) := by decide +kernel
theorem dX4_judge_107 : decode cX4_judge 107 = .ok (.ireturn, 1) := by decide +kernel
set_option maxHeartbeats 4000000 in
set_option maxRecDepth 100000 in
theorem g_X4_judge {E : fh_E} {M : fh_M} (C : fh_Cx E M cX4_judge 7 RX4 ((some FieldType.int)) rm_X4_judge) (Hr : fh_Rt E M) (k1 : Nat) (a2 : Int32) (σ3 : fh_S) : fh_Go E M 7 fh_vI 0 [(0, .ref (fh_ad E k1)), (1, .int a2)] [] σ3 (f_X4_judge k1 a2 σ3) := by
  have hok := fh_cok C
  refine go_ob ?_
  refine go_aload_n C 0 rfl rfl dX4_judge_0 ?_
  refine go_iload_n C 1 rfl rfl dX4_judge_1 ?_
  refine go_callVI C (st := []) [.int a2] (m_X4_findingOfSheet E _ hok k1 a2 σ3) (fun _ h => fh_ob_ok h) rfl rfl ⟨q_446, q_448, qs_5, q_1, q_449⟩ pd_X4_findingOfSheet rfl ⟨⟨Nat.le_of_ble_eq_true rfl, Nat.le_of_ble_eq_true rfl⟩, rfl, rfl⟩ (Nat.le_of_ble_eq_true rfl) dX4_judge_2 (fun r5 σ4 => ?_)
  refine go_istore_n C [(2, .int r5), (0, .ref (fh_ad E k1)), (1, .int a2)] rfl rfl (by decide) dX4_judge_5 ?_
  refine go_iload_n C 0 rfl rfl dX4_judge_6 ?_
  refine go_if_eq (tgt := 16) C dX4_judge_7 rfl (fun _ => ?_) (fun _ => ?_)
  · refine go_iconst C (-1 : Int32) dX4_judge_16 rfl ?_
    refine go_istore_n C [(3, .int ((-1 : Int32))), (2, .int r5), (0, .ref (fh_ad E k1)), (1, .int a2)] rfl rfl (by decide) dX4_judge_17 ?_
    refine go_iconst C (0 : Int32) dX4_judge_18 rfl ?_
    refine go_istore C [(4, .int ((0 : Int32))), (3, .int ((-1 : Int32))), (2, .int r5), (0, .ref (fh_ad E k1)), (1, .int a2)] rfl (by decide) dX4_judge_19 ?_
    refine go_lv [3, 4, 1, 0] (lv' := [(0, .ref (fh_ad E k1)), (1, .int a2), (3, .int ((-1 : Int32))), (4, .int ((0 : Int32)))]) rfl ?_
    refine go_fx (fun (r9 : Int32 → Int32 → fh_S → Option (Int32 × fh_S)) => ∀ (x6 : Int32) (x7 : Int32) (σ8 : fh_S), fh_Go E M 7 fh_vI 21 [(0, .ref (fh_ad E k1)), (1, .int a2), (3, .int x6), (4, .int x7)] [] σ8 (r9 x6 x7 σ8)) ?_ ?_ fh_fu ((-1 : Int32)) ((0 : Int32)) σ4
    · intro x6 x7 σ8
      exact go_none
    · intro r9 hr9 x6 x7 σ8
      refine go_iload C 3 rfl dX4_judge_21 ?_
      refine go_aload_n C 0 rfl rfl dX4_judge_23 ?_
      refine go_gr (ci := 4) (j := 5) C fh_in4 rfl (by decide) rfl q_143 dX4_judge_24 (fun k10 => ?_)
      refine go_iload_n C 1 rfl rfl dX4_judge_27 ?_
      refine go_aald C dX4_judge_28 (fun k11 => ?_)
      refine go_gi (ci := 2) (j := 2) C fh_in2 rfl (by decide) rfl q_130 dX4_judge_29 (fun v12 => ?_)
      refine go_icmp_ge (tgt := 106) C dX4_judge_32 rfl (fun _ => ?_) (fun _ => ?_)
      · refine go_iconst C (0 : Int32) dX4_judge_106 rfl ?_
        exact go_iret C Hr rfl dX4_judge_107
      · refine go_aload_n C 0 rfl rfl dX4_judge_35 ?_
        refine go_gr (ci := 4) (j := 5) C fh_in4 rfl (by decide) rfl q_143 dX4_judge_36 (fun k13 => ?_)
        refine go_iload_n C 1 rfl rfl dX4_judge_39 ?_
        refine go_aald C dX4_judge_40 (fun k14 => ?_)
        refine go_gr (ci := 2) (j := 0) C fh_in2 rfl (by decide) rfl q_126 dX4_judge_41 (fun k15 => ?_)
        refine go_iload C 3 rfl dX4_judge_44 ?_
        refine go_iald C dX4_judge_46 (fun v16 => ?_)
        refine go_istore C [(5, .int v16), (0, .ref (fh_ad E k1)), (1, .int a2), (3, .int x6), (4, .int x7)] rfl (by decide) dX4_judge_47 ?_
        refine go_iload C 4 rfl dX4_judge_49 ?_
        refine go_jn (fun (j22 : Int32 → fh_S → Option (Int32 × fh_S)) => ∀ (x17 : Int32) (σ18 : fh_S), fh_Go E M 7 fh_vI 77 [(0, .ref (fh_ad E k1)), (1, .int a2), (4, .int x7), (5, .int v16)] [.int x17] σ18 (j22 x17 σ18)) ?_ (fun j22 hj22 => ?_)
        · intro x17 σ18
          refine go_istore C [(6, .int x17), (0, .ref (fh_ad E k1)), (1, .int a2), (4, .int x7), (5, .int v16)] rfl (by decide) dX4_judge_77 ?_
          refine go_iload C 0 rfl dX4_judge_79 ?_
          refine go_if_ne (tgt := 89) C dX4_judge_81 rfl (fun _ => ?_) (fun _ => ?_)
          · refine go_aload_n C 1 rfl rfl dX4_judge_89 ?_
            refine go_gr (ci := 4) (j := 0) C fh_in4 rfl (by decide) rfl q_138 dX4_judge_90 (fun k19 => ?_)
            refine go_gr (ci := 0) (j := 2) C fh_in0 rfl (by decide) rfl q_35 dX4_judge_93 (fun k20 => ?_)
            refine go_iload C 4 rfl dX4_judge_96 ?_
            refine go_iald C dX4_judge_98 (fun v21 => ?_)
            refine go_istore_n C [(3, .int v21), (6, .int x17), (0, .ref (fh_ad E k1)), (1, .int a2), (4, .int x7), (5, .int v16)] rfl rfl (by decide) dX4_judge_99 ?_
            refine go_iinc C (x7 + 1) 4 [(4, .int (x7 + 1)), (3, .int v21), (6, .int x17), (0, .ref (fh_ad E k1)), (1, .int a2), (5, .int v16)] rfl rfl rfl (by decide) dX4_judge_100 ?_
            refine go_goto C 21 dX4_judge_103 rfl ?_
            refine go_lv [3, 4, 1, 0] (lv' := [(0, .ref (fh_ad E k1)), (1, .int a2), (3, .int v21), (4, .int (x7 + 1))]) rfl ?_
            exact hr9 v21 (x7 + 1) σ18
          · refine go_iconst C (1 : Int32) dX4_judge_84 rfl ?_
            refine go_iload C 3 rfl dX4_judge_85 ?_
            refine go_iadd C dX4_judge_87 ?_
            exact go_iret C Hr rfl dX4_judge_88
        refine go_if_ne (tgt := 66) C dX4_judge_51 rfl (fun _ => ?_) (fun _ => ?_)
        · refine go_iload C 0 rfl dX4_judge_66 ?_
          refine go_iload_n C 3 rfl rfl dX4_judge_68 ?_
          refine go_icmp_ne (tgt := 76) C dX4_judge_69 rfl (fun _ => ?_) (fun _ => ?_)
          · refine go_iconst C (0 : Int32) dX4_judge_76 rfl ?_
            refine go_lv [1, 2, 4, 0] (lv' := [(0, .ref (fh_ad E k1)), (1, .int a2), (4, .int x7), (5, .int v16)]) rfl ?_
            exact hj22 ((0 : Int32)) σ8
          · refine go_iconst C (1 : Int32) dX4_judge_72 rfl ?_
            refine go_goto C 77 dX4_judge_73 rfl ?_
            refine go_lv [1, 2, 4, 0] (lv' := [(0, .ref (fh_ad E k1)), (1, .int a2), (4, .int x7), (5, .int v16)]) rfl ?_
            exact hj22 ((1 : Int32)) σ8
        · refine go_aload_n C 1 rfl rfl dX4_judge_54 ?_
          refine go_gr (ci := 4) (j := 0) C fh_in4 rfl (by decide) rfl q_138 dX4_judge_55 (fun k23 => ?_)
          refine go_iload C 0 rfl dX4_judge_58 ?_
          refine go_callVI C (st := []) [.int v16] (m_X0_has E _ hok k23 v16 σ8) (fun _ h => fh_ob_ok h) rfl rfl ⟨q_196, q_197, q_198, q_2, q_199⟩ pd_X0_has rfl ⟨⟨Nat.le_of_ble_eq_true rfl, Nat.le_of_ble_eq_true rfl⟩, rfl, rfl⟩ (Nat.le_of_ble_eq_true rfl) dX4_judge_60 (fun r25 σ24 => ?_)
          refine go_goto C 77 dX4_judge_63 rfl ?_
          refine go_lv [1, 2, 4, 0] (lv' := [(0, .ref (fh_ad E k1)), (1, .int a2), (4, .int x7), (5, .int v16)]) rfl ?_
          exact hj22 r25 σ24
  · refine go_aload_n C 1 rfl rfl dX4_judge_10 ?_
    refine go_iload_n C 0 rfl rfl dX4_judge_11 ?_
    refine go_callVI C (st := []) [.int r5] (m_X4_tell E _ hok k1 r5 σ4) (fun _ h => fh_ob_ok h) rfl rfl ⟨q_176, q_178, qs_0, q_1, q_179⟩ pd_X4_tell rfl ⟨⟨Nat.le_of_ble_eq_true rfl, Nat.le_of_ble_eq_true rfl⟩, rfl, rfl⟩ (Nat.le_of_ble_eq_true rfl) dX4_judge_12 (fun r27 σ26 => ?_)
    exact go_iret C Hr rfl dX4_judge_15
theorem m_X4_judge (E : fh_E) (l : Launch) (hok : fh_ok E) (k1 : Nat) (a2 : Int32) (σ3 : fh_S) : fh_Met E l yX4_judge cX4_judge 7 ((some FieldType.int)) rm_X4_judge fh_vI [.ref (fh_ad E k1), .int a2] σ3 (f_X4_judge k1 a2 σ3) := fh_met hok (by decide +kernel) (Nat.le_of_ble_eq_true rfl) (fun M _ C Hr => g_X4_judge C Hr k1 a2 σ3)
def f_X4_image (k1 : Nat) (σ2 : fh_S) : Option (Int32 × fh_S) := fh_ob 4 k1 ((fh_gr 4 k1 1).bind fun k3 => (fh_gr 4 k1 0).bind fun k4 => fh_cb (f_X0_become k3 k4 σ2) fun _ σ5 => (fh_pz σ5 4 k1 7 ((1 : Int32))).bind fun σ6 => some ((1 : Int32), σ6))
abbrev rm_X4_image : Room := { frames := 2, cells := 0, slots := 0, locals := 81 }
theorem pd_X4_image : yX4_image.cls ≠ "java/lang/invoke/MethodHandle" ∧ yX4_image.cls ≠ "java/lang/invoke/VarHandle" ∧ (parseMethodDescriptor yX4_image.desc).map (fun d => d.parameters.length) = some 0 := by decide +kernel
theorem dX4_image_0 : decode cX4_image 0 = .ok (.aload_n 0, 1) := by decide +kernel
theorem dX4_image_1 : decode cX4_image 1 = .ok (.getfield 16, 3) := by decide +kernel
theorem dX4_image_4 : decode cX4_image 4 = .ok (.aload_n 0, 1) := by decide +kernel
theorem dX4_image_5 : decode cX4_image 5 = .ok (.getfield 12, 3) := by decide +kernel
theorem dX4_image_8 : decode cX4_image 8 = .ok (.invokevirtual 161, 3) := by decide +kernel
theorem dX4_image_11 : decode cX4_image 11 = .ok (.aload_n 0, 1) := by decide +kernel
theorem dX4_image_12 : decode cX4_image 12 = .ok (.iconst 1, 1) := by decide +kernel
theorem dX4_image_13 : decode cX4_image 13 = .ok (.putfield 49, 3) := by decide +kernel
theorem dX4_image_16 : decode cX4_image 16 = .ok (.iconst 1, 1) := by decide +kernel
theorem dX4_image_17 : decode cX4_image 17 = .ok (.ireturn, 1) := by decide +kernel
set_option maxHeartbeats 4000000 in
set_option maxRecDepth 100000 in
theorem g_X4_image {E : fh_E} {M : fh_M} (C : fh_Cx E M cX4_image 1 RX4 ((some FieldType.int)) rm_X4_image) (Hr : fh_Rt E M) (k1 : Nat) (σ2 : fh_S) : fh_Go E M 1 fh_vI 0 [(0, .ref (fh_ad E k1))] [] σ2 (f_X4_image k1 σ2) := by
  have hok := fh_cok C
  refine go_ob ?_
  refine go_aload_n C 0 rfl rfl dX4_image_0 ?_
  refine go_gr (ci := 4) (j := 1) C fh_in4 rfl (by decide) rfl q_139 dX4_image_1 (fun k3 => ?_)
  refine go_aload_n C 0 rfl rfl dX4_image_4 ?_
  refine go_gr (ci := 4) (j := 0) C fh_in4 rfl (by decide) rfl q_138 dX4_image_5 (fun k4 => ?_)
  refine go_callVU C (st := []) [.ref (fh_ad E k4)] (m_X0_become E _ hok k3 k4 σ2) (fun _ h => fh_ob_ok h) rfl rfl ⟨q_378, q_379, q_380, q_2, q_381⟩ pd_X0_become rfl ⟨⟨Nat.le_of_ble_eq_true rfl, Nat.le_of_ble_eq_true rfl⟩, rfl, rfl⟩ (Nat.le_of_ble_eq_true rfl) dX4_image_8 (fun _ σ5 => ?_)
  refine go_aload_n C 0 rfl rfl dX4_image_11 ?_
  refine go_iconst C (1 : Int32) dX4_image_12 rfl ?_
  refine go_pz (ci := 4) (j := 7) C tyX4 tyX4_ok nmX4 fh_in4 rfl (by decide) rfl q_145 rfl rfl dX4_image_13 (fun σ6 => ?_)
  refine go_iconst C (1 : Int32) dX4_image_16 rfl ?_
  exact go_iret C Hr rfl dX4_image_17
theorem m_X4_image (E : fh_E) (l : Launch) (hok : fh_ok E) (k1 : Nat) (σ2 : fh_S) : fh_Met E l yX4_image cX4_image 1 ((some FieldType.int)) rm_X4_image fh_vI [.ref (fh_ad E k1)] σ2 (f_X4_image k1 σ2) := fh_met hok (by decide +kernel) (Nat.le_of_ble_eq_true rfl) (fun M _ C Hr => g_X4_image C Hr k1 σ2)
def f_X4_undo (k1 : Nat) (σ2 : fh_S) : Option (Int32 × fh_S) := fh_ob 4 k1 ((fh_gi σ2 4 k1 7).bind fun v3 => if v3 = 0 then fh_cb (f_X4_tell k1 ((-1000004 : Int32)) σ2) fun r10 σ9 => some (r10, σ9) else (fh_gr 4 k1 0).bind fun k4 => (fh_gr 4 k1 1).bind fun k5 => fh_cb (f_X0_become k4 k5 σ2) fun _ σ6 => (fh_gr 4 k1 0).bind fun k7 => (fh_gi σ6 0 k7 10).bind fun v8 => some (v8, σ6))
abbrev rm_X4_undo : Room := { frames := 2, cells := 0, slots := 0, locals := 81 }
theorem pd_X4_undo : yX4_undo.cls ≠ "java/lang/invoke/MethodHandle" ∧ yX4_undo.cls ≠ "java/lang/invoke/VarHandle" ∧ (parseMethodDescriptor yX4_undo.desc).map (fun d => d.parameters.length) = some 0 := by decide +kernel
theorem dX4_undo_0 : decode cX4_undo 0 = .ok (.aload_n 0, 1) := by decide +kernel
theorem dX4_undo_1 : decode cX4_undo 1 = .ok (.getfield 49, 3) := by decide +kernel
theorem dX4_undo_4 : decode cX4_undo 4 = .ok (.ifCond .ne 10, 3) := by decide +kernel
theorem dX4_undo_7 : decode cX4_undo 7 = .ok (.aload_n 0, 1) := by decide +kernel
theorem dX4_undo_8 : decode cX4_undo 8 = .ok (.ldc 154, 2) := by decide +kernel
theorem dX4_undo_10 : decode cX4_undo 10 = .ok (.invokevirtual 58, 3) := by decide +kernel
theorem dX4_undo_13 : decode cX4_undo 13 = .ok (.ireturn, 1) := by decide +kernel
theorem dX4_undo_14 : decode cX4_undo 14 = .ok (.aload_n 0, 1) := by decide +kernel
theorem dX4_undo_15 : decode cX4_undo 15 = .ok (.getfield 12, 3) := by decide +kernel
theorem dX4_undo_18 : decode cX4_undo 18 = .ok (.aload_n 0, 1) := by decide +kernel
theorem dX4_undo_19 : decode cX4_undo 19 = .ok (.getfield 16, 3) := by decide +kernel
theorem dX4_undo_22 : decode cX4_undo 22 = .ok (.invokevirtual 161, 3) := by decide +kernel
theorem dX4_undo_25 : decode cX4_undo 25 = .ok (.aload_n 0, 1) := by decide +kernel
theorem dX4_undo_26 : decode cX4_undo 26 = .ok (.getfield 12, 3) := by decide +kernel
theorem dX4_undo_29 : decode cX4_undo 29 = .ok (.getfield 101, 3) := by decide +kernel
theorem dX4_undo_32 : decode cX4_undo 32 = .ok (.ireturn, 1) := by decide +kernel
set_option maxHeartbeats 4000000 in
set_option maxRecDepth 100000 in
theorem g_X4_undo {E : fh_E} {M : fh_M} (C : fh_Cx E M cX4_undo 1 RX4 ((some FieldType.int)) rm_X4_undo) (Hr : fh_Rt E M) (k1 : Nat) (σ2 : fh_S) : fh_Go E M 1 fh_vI 0 [(0, .ref (fh_ad E k1))] [] σ2 (f_X4_undo k1 σ2) := by
  have hok := fh_cok C
  refine go_ob ?_
  refine go_aload_n C 0 rfl rfl dX4_undo_0 ?_
  refine go_gi (ci := 4) (j := 7) C fh_in4 rfl (by decide) rfl q_145 dX4_undo_1 (fun v3 => ?_)
  refine go_if_ne (tgt := 14) C dX4_undo_4 rfl (fun _ => ?_) (fun _ => ?_)
  · refine go_aload_n C 0 rfl rfl dX4_undo_14 ?_
    refine go_gr (ci := 4) (j := 0) C fh_in4 rfl (by decide) rfl q_138 dX4_undo_15 (fun k4 => ?_)
    refine go_aload_n C 0 rfl rfl dX4_undo_18 ?_
    refine go_gr (ci := 4) (j := 1) C fh_in4 rfl (by decide) rfl q_139 dX4_undo_19 (fun k5 => ?_)
    refine go_callVU C (st := []) [.ref (fh_ad E k5)] (m_X0_become E _ hok k4 k5 σ2) (fun _ h => fh_ob_ok h) rfl rfl ⟨q_378, q_379, q_380, q_2, q_381⟩ pd_X0_become rfl ⟨⟨Nat.le_of_ble_eq_true rfl, Nat.le_of_ble_eq_true rfl⟩, rfl, rfl⟩ (Nat.le_of_ble_eq_true rfl) dX4_undo_22 (fun _ σ6 => ?_)
    refine go_aload_n C 0 rfl rfl dX4_undo_25 ?_
    refine go_gr (ci := 4) (j := 0) C fh_in4 rfl (by decide) rfl q_138 dX4_undo_26 (fun k7 => ?_)
    refine go_gi (ci := 0) (j := 10) C fh_in0 rfl (by decide) rfl q_50 dX4_undo_29 (fun v8 => ?_)
    exact go_iret C Hr rfl dX4_undo_32
  · refine go_aload_n C 0 rfl rfl dX4_undo_7 ?_
    refine go_ldc C q_369 dX4_undo_8 ?_
    refine go_callVI C (st := []) [.int ((-1000004 : Int32))] (m_X4_tell E _ hok k1 ((-1000004 : Int32)) σ2) (fun _ h => fh_ob_ok h) rfl rfl ⟨q_176, q_178, qs_0, q_1, q_179⟩ pd_X4_tell rfl ⟨⟨Nat.le_of_ble_eq_true rfl, Nat.le_of_ble_eq_true rfl⟩, rfl, rfl⟩ (Nat.le_of_ble_eq_true rfl) dX4_undo_10 (fun r10 σ9 => ?_)
    exact go_iret C Hr rfl dX4_undo_13
theorem m_X4_undo (E : fh_E) (l : Launch) (hok : fh_ok E) (k1 : Nat) (σ2 : fh_S) : fh_Met E l yX4_undo cX4_undo 1 ((some FieldType.int)) rm_X4_undo fh_vI [.ref (fh_ad E k1)] σ2 (f_X4_undo k1 σ2) := fh_met hok (by decide +kernel) (Nat.le_of_ble_eq_true rfl) (fun M _ C Hr => g_X4_undo C Hr k1 σ2)
def f_X4_tear (k1 : Nat) (σ2 : fh_S) : Option (Int32 × fh_S) := fh_ob 4 k1 ((fh_gi σ2 4 k1 7).bind fun v3 => (fh_pz σ2 4 k1 7 ((0 : Int32))).bind fun σ4 => if v3 = 0 then some ((0 : Int32), σ4) else some ((1 : Int32), σ4))
abbrev rm_X4_tear : Room := { frames := 0, cells := 0, slots := 0, locals := 0 }
theorem pd_X4_tear : yX4_tear.cls ≠ "java/lang/invoke/MethodHandle" ∧ yX4_tear.cls ≠ "java/lang/invoke/VarHandle" ∧ (parseMethodDescriptor yX4_tear.desc).map (fun d => d.parameters.length) = some 0 := by decide +kernel
theorem dX4_tear_0 : decode cX4_tear 0 = .ok (.aload_n 0, 1) := by decide +kernel
theorem dX4_tear_1 : decode cX4_tear 1 = .ok (.getfield 49, 3) := by decide +kernel
theorem dX4_tear_4 : decode cX4_tear 4 = .ok (.istore_n 1, 1) := by decide +kernel
theorem dX4_tear_5 : decode cX4_tear 5 = .ok (.aload_n 0, 1) := by decide +kernel
theorem dX4_tear_6 : decode cX4_tear 6 = .ok (.iconst 0, 1) := by decide +kernel
theorem dX4_tear_7 : decode cX4_tear 7 = .ok (.putfield 49, 3) := by decide +kernel
theorem dX4_tear_10 : decode cX4_tear 10 = .ok (.iload_n 1, 1) := by decide +kernel
theorem dX4_tear_11 : decode cX4_tear 11 = .ok (.ifCond .eq 7, 3) := by decide +kernel
theorem dX4_tear_14 : decode cX4_tear 14 = .ok (.iconst 1, 1) := by decide +kernel
theorem dX4_tear_15 : decode cX4_tear 15 = .ok (.goto 4, 3) := by decide +kernel
theorem dX4_tear_18 : decode cX4_tear 18 = .ok (.iconst 0, 1) := by decide +kernel
theorem dX4_tear_19 : decode cX4_tear 19 = .ok (.ireturn, 1) := by decide +kernel
set_option maxHeartbeats 4000000 in
set_option maxRecDepth 100000 in
theorem g_X4_tear {E : fh_E} {M : fh_M} (C : fh_Cx E M cX4_tear 2 RX4 ((some FieldType.int)) rm_X4_tear) (Hr : fh_Rt E M) (k1 : Nat) (σ2 : fh_S) : fh_Go E M 2 fh_vI 0 [(0, .ref (fh_ad E k1))] [] σ2 (f_X4_tear k1 σ2) := by
  have hok := fh_cok C
  refine go_ob ?_
  refine go_aload_n C 0 rfl rfl dX4_tear_0 ?_
  refine go_gi (ci := 4) (j := 7) C fh_in4 rfl (by decide) rfl q_145 dX4_tear_1 (fun v3 => ?_)
  refine go_istore_n C [(1, .int v3), (0, .ref (fh_ad E k1))] rfl rfl (by decide) dX4_tear_4 ?_
  refine go_aload_n C 1 rfl rfl dX4_tear_5 ?_
  refine go_iconst C (0 : Int32) dX4_tear_6 rfl ?_
  refine go_pz (ci := 4) (j := 7) C tyX4 tyX4_ok nmX4 fh_in4 rfl (by decide) rfl q_145 rfl rfl dX4_tear_7 (fun σ4 => ?_)
  refine go_iload_n C 0 rfl rfl dX4_tear_10 ?_
  refine go_if_eq (tgt := 18) C dX4_tear_11 rfl (fun _ => ?_) (fun _ => ?_)
  · refine go_iconst C (0 : Int32) dX4_tear_18 rfl ?_
    exact go_iret C Hr rfl dX4_tear_19
  · refine go_iconst C (1 : Int32) dX4_tear_14 rfl ?_
    refine go_goto C 19 dX4_tear_15 rfl ?_
    exact go_iret C Hr rfl dX4_tear_19
theorem m_X4_tear (E : fh_E) (l : Launch) (hok : fh_ok E) (k1 : Nat) (σ2 : fh_S) : fh_Met E l yX4_tear cX4_tear 2 ((some FieldType.int)) rm_X4_tear fh_vI [.ref (fh_ad E k1)] σ2 (f_X4_tear k1 σ2) := fh_met hok (by decide +kernel) (Nat.le_of_ble_eq_true rfl) (fun M _ C Hr => g_X4_tear C Hr k1 σ2)
def f_X4_count (k1 : Nat) (a2 : Int32) (σ3 : fh_S) : Option (Int32 × fh_S) := fh_ob 4 k1 (if a2 = (0 : Int32) then (fh_gr 4 k1 0).bind fun k4 => (fh_gi σ3 0 k4 10).bind fun v5 => some (v5, σ3) else if a2 = (1 : Int32) then (fh_gr 4 k1 0).bind fun k7 => (fh_gi σ3 0 k7 9).bind fun v8 => some (v8, σ3) else if a2 = (2 : Int32) then (fh_gr 4 k1 0).bind fun k10 => fh_cb (f_X0_stoppedSet k10 σ3) fun r12 σ11 => fh_cb (f_J6_bitCount_0f7a4 r12 σ11) fun r14 σ13 => some (r14, σ13) else if a2 = (3 : Int32) then (fh_gr 4 k1 0).bind fun k16 => fh_cb (f_X0_ringCount k16 σ3) fun r18 σ17 => some (r18, σ17) else if a2 = (4 : Int32) then (fh_gr 4 k1 0).bind fun k20 => (fh_gr 4 k1 0).bind fun k21 => (fh_gr 0 k21 1).bind fun k22 => fh_cb (f_X0_sumOf k20 k22 σ3) fun r24 σ23 => some (r24, σ23) else if a2 = (5 : Int32) then (fh_gr 4 k1 3).bind fun k26 => (fh_gi σ3 3 k26 1).bind fun v27 => some (v27, σ3) else if a2 = (6 : Int32) then (fh_gr 4 k1 0).bind fun k29 => (fh_gi σ3 0 k29 11).bind fun v30 => some (v30, σ3) else if a2 = (7 : Int32) then (fh_gr 4 k1 0).bind fun k32 => fh_cb (f_X0_heldCount k32 σ3) fun r34 σ33 => some (r34, σ33) else fh_cb (f_X4_tell k1 ((-1000001 : Int32)) σ3) fun r37 σ36 => some (r37, σ36))
abbrev rm_X4_count : Room := { frames := 3, cells := 0, slots := 0, locals := 69 }
theorem pd_X4_count : yX4_count.cls ≠ "java/lang/invoke/MethodHandle" ∧ yX4_count.cls ≠ "java/lang/invoke/VarHandle" ∧ (parseMethodDescriptor yX4_count.desc).map (fun d => d.parameters.length) = some 1 := by decide +kernel
theorem dX4_count_0 : decode cX4_count 0 = .ok (.iload_n 1, 1) := by decide +kernel
theorem dX4_count_1 : decode cX4_count 1 = .ok (.tableswitch 121 0 7 #[47, 55, 63, 74, 82, 97, 105, 113], 47) := by decide +kernel
theorem dX4_count_48 : decode cX4_count 48 = .ok (.aload_n 0, 1) := by decide +kernel
theorem dX4_count_49 : decode cX4_count 49 = .ok (.getfield 12, 3) := by decide +kernel
theorem dX4_count_52 : decode cX4_count 52 = .ok (.getfield 101, 3) := by decide +kernel
theorem dX4_count_55 : decode cX4_count 55 = .ok (.ireturn, 1) := by decide +kernel
theorem dX4_count_56 : decode cX4_count 56 = .ok (.aload_n 0, 1) := by decide +kernel
theorem dX4_count_57 : decode cX4_count 57 = .ok (.getfield 12, 3) := by decide +kernel
theorem dX4_count_60 : decode cX4_count 60 = .ok (.getfield 136, 3) := by decide +kernel
theorem dX4_count_63 : decode cX4_count 63 = .ok (.ireturn, 1) := by decide +kernel
theorem dX4_count_64 : decode cX4_count 64 = .ok (.aload_n 0, 1) := by decide +kernel
theorem dX4_count_65 : decode cX4_count 65 = .ok (.getfield 12, 3) := by decide +kernel
theorem dX4_count_68 : decode cX4_count 68 = .ok (.invokevirtual 111, 3) := by decide +kernel
theorem dX4_count_71 : decode cX4_count 71 = .ok (.invokestatic 131, 3) := by decide +kernel
theorem dX4_count_74 : decode cX4_count 74 = .ok (.ireturn, 1) := by decide +kernel
theorem dX4_count_75 : decode cX4_count 75 = .ok (.aload_n 0, 1) := by decide +kernel
theorem dX4_count_76 : decode cX4_count 76 = .ok (.getfield 12, 3) := by decide +kernel
theorem dX4_count_79 : decode cX4_count 79 = .ok (.invokevirtual 145, 3) := by decide +kernel
theorem dX4_count_82 : decode cX4_count 82 = .ok (.ireturn, 1) := by decide +kernel
theorem dX4_count_83 : decode cX4_count 83 = .ok (.aload_n 0, 1) := by decide +kernel
theorem dX4_count_84 : decode cX4_count 84 = .ok (.getfield 12, 3) := by decide +kernel
theorem dX4_count_87 : decode cX4_count 87 = .ok (.aload_n 0, 1) := by decide +kernel
theorem dX4_count_88 : decode cX4_count 88 = .ok (.getfield 12, 3) := by decide +kernel
theorem dX4_count_91 : decode cX4_count 91 = .ok (.getfield 92, 3) := by decide +kernel
theorem dX4_count_94 : decode cX4_count 94 = .ok (.invokevirtual 124, 3) := by decide +kernel
theorem dX4_count_97 : decode cX4_count 97 = .ok (.ireturn, 1) := by decide +kernel
theorem dX4_count_98 : decode cX4_count 98 = .ok (.aload_n 0, 1) := by decide +kernel
theorem dX4_count_99 : decode cX4_count 99 = .ok (.getfield 25, 3) := by decide +kernel
theorem dX4_count_102 : decode cX4_count 102 = .ok (.getfield 213, 3) := by decide +kernel
theorem dX4_count_105 : decode cX4_count 105 = .ok (.ireturn, 1) := by decide +kernel
theorem dX4_count_106 : decode cX4_count 106 = .ok (.aload_n 0, 1) := by decide +kernel
theorem dX4_count_107 : decode cX4_count 107 = .ok (.getfield 12, 3) := by decide +kernel
theorem dX4_count_110 : decode cX4_count 110 = .ok (.getfield 210, 3) := by decide +kernel
theorem dX4_count_113 : decode cX4_count 113 = .ok (.ireturn, 1) := by decide +kernel
theorem dX4_count_114 : decode cX4_count 114 = .ok (.aload_n 0, 1) := by decide +kernel
theorem dX4_count_115 : decode cX4_count 115 = .ok (.getfield 12, 3) := by decide +kernel
theorem dX4_count_118 : decode cX4_count 118 = .ok (.invokevirtual 266, 3) := by decide +kernel
theorem dX4_count_121 : decode cX4_count 121 = .ok (.ireturn, 1) := by decide +kernel
theorem dX4_count_122 : decode cX4_count 122 = .ok (.aload_n 0, 1) := by decide +kernel
theorem dX4_count_123 : decode cX4_count 123 = .ok (.ldc 57, 2) := by decide +kernel
theorem dX4_count_125 : decode cX4_count 125 = .ok (.invokevirtual 58, 3) := by decide +kernel
theorem dX4_count_128 : decode cX4_count 128 = .ok (.ireturn, 1) := by decide +kernel
set_option maxHeartbeats 4000000 in
set_option maxRecDepth 100000 in
theorem g_X4_count {E : fh_E} {M : fh_M} (C : fh_Cx E M cX4_count 2 RX4 ((some FieldType.int)) rm_X4_count) (Hr : fh_Rt E M) (k1 : Nat) (a2 : Int32) (σ3 : fh_S) : fh_Go E M 2 fh_vI 0 [(0, .ref (fh_ad E k1)), (1, .int a2)] [] σ3 (f_X4_count k1 a2 σ3) := by
  have hok := fh_cok C
  refine go_ob ?_
  refine go_iload_n C 1 rfl rfl dX4_count_0 ?_
  refine go_sw C (0 : Int32) 48 dX4_count_1 (by decide) (by decide) rfl rfl ?_ (fun hn6 => ?_)
  · refine go_aload_n C 0 rfl rfl dX4_count_48 ?_
    refine go_gr (ci := 4) (j := 0) C fh_in4 rfl (by decide) rfl q_138 dX4_count_49 (fun k4 => ?_)
    refine go_gi (ci := 0) (j := 10) C fh_in0 rfl (by decide) rfl q_50 dX4_count_52 (fun v5 => ?_)
    exact go_iret C Hr rfl dX4_count_55
  refine go_sw C (1 : Int32) 56 dX4_count_1 (by decide) (by decide) rfl rfl ?_ (fun hn9 => ?_)
  · refine go_aload_n C 0 rfl rfl dX4_count_56 ?_
    refine go_gr (ci := 4) (j := 0) C fh_in4 rfl (by decide) rfl q_138 dX4_count_57 (fun k7 => ?_)
    refine go_gi (ci := 0) (j := 9) C fh_in0 rfl (by decide) rfl q_48 dX4_count_60 (fun v8 => ?_)
    exact go_iret C Hr rfl dX4_count_63
  refine go_sw C (2 : Int32) 64 dX4_count_1 (by decide) (by decide) rfl rfl ?_ (fun hn15 => ?_)
  · refine go_aload_n C 0 rfl rfl dX4_count_64 ?_
    refine go_gr (ci := 4) (j := 0) C fh_in4 rfl (by decide) rfl q_138 dX4_count_65 (fun k10 => ?_)
    refine go_callVI C (st := []) [] (m_X0_stoppedSet E _ hok k10 σ3) (fun _ h => fh_ob_ok h) rfl rfl ⟨q_282, q_283, q_284, q_2, q_285⟩ pd_X0_stoppedSet rfl ⟨⟨Nat.le_of_ble_eq_true rfl, Nat.le_of_ble_eq_true rfl⟩, rfl, rfl⟩ (Nat.le_of_ble_eq_true rfl) dX4_count_68 (fun r12 σ11 => ?_)
    refine go_callSI C (st := []) [.int r12] (m_J6_bitCount_0f7a4 E _ hok r12 σ11) rfl ⟨q_312, q_307, q_8, q_308⟩ pd_J6_bitCount_0f7a4 rfl ⟨⟨Nat.le_of_ble_eq_true rfl, Nat.le_of_ble_eq_true rfl⟩, rfl, rfl⟩ (Nat.le_of_ble_eq_true rfl) dX4_count_71 (fun r14 σ13 => ?_)
    exact go_iret C Hr rfl dX4_count_74
  refine go_sw C (3 : Int32) 75 dX4_count_1 (by decide) (by decide) rfl rfl ?_ (fun hn19 => ?_)
  · refine go_aload_n C 0 rfl rfl dX4_count_75 ?_
    refine go_gr (ci := 4) (j := 0) C fh_in4 rfl (by decide) rfl q_138 dX4_count_76 (fun k16 => ?_)
    refine go_callVI C (st := []) [] (m_X0_ringCount E _ hok k16 σ3) (fun _ h => fh_ob_ok h) rfl rfl ⟨q_334, q_335, q_336, q_2, q_337⟩ pd_X0_ringCount rfl ⟨⟨Nat.le_of_ble_eq_true rfl, Nat.le_of_ble_eq_true rfl⟩, rfl, rfl⟩ (Nat.le_of_ble_eq_true rfl) dX4_count_79 (fun r18 σ17 => ?_)
    exact go_iret C Hr rfl dX4_count_82
  refine go_sw C (4 : Int32) 83 dX4_count_1 (by decide) (by decide) rfl rfl ?_ (fun hn25 => ?_)
  · refine go_aload_n C 0 rfl rfl dX4_count_83 ?_
    refine go_gr (ci := 4) (j := 0) C fh_in4 rfl (by decide) rfl q_138 dX4_count_84 (fun k20 => ?_)
    refine go_aload_n C 0 rfl rfl dX4_count_87 ?_
    refine go_gr (ci := 4) (j := 0) C fh_in4 rfl (by decide) rfl q_138 dX4_count_88 (fun k21 => ?_)
    refine go_gr (ci := 0) (j := 1) C fh_in0 rfl (by decide) rfl q_32 dX4_count_91 (fun k22 => ?_)
    refine go_callVI C (st := []) [.ref (fh_ad E k22)] (m_X0_sumOf E _ hok k20 k22 σ3) (fun _ h => fh_ob_ok h) rfl rfl ⟨q_298, q_299, q_300, q_2, q_301⟩ pd_X0_sumOf rfl ⟨⟨Nat.le_of_ble_eq_true rfl, Nat.le_of_ble_eq_true rfl⟩, rfl, rfl⟩ (Nat.le_of_ble_eq_true rfl) dX4_count_94 (fun r24 σ23 => ?_)
    exact go_iret C Hr rfl dX4_count_97
  refine go_sw C (5 : Int32) 98 dX4_count_1 (by decide) (by decide) rfl rfl ?_ (fun hn28 => ?_)
  · refine go_aload_n C 0 rfl rfl dX4_count_98 ?_
    refine go_gr (ci := 4) (j := 3) C fh_in4 rfl (by decide) rfl q_141 dX4_count_99 (fun k26 => ?_)
    refine go_gi (ci := 3) (j := 1) C fh_in3 rfl (by decide) rfl q_87 dX4_count_102 (fun v27 => ?_)
    exact go_iret C Hr rfl dX4_count_105
  refine go_sw C (6 : Int32) 106 dX4_count_1 (by decide) (by decide) rfl rfl ?_ (fun hn31 => ?_)
  · refine go_aload_n C 0 rfl rfl dX4_count_106 ?_
    refine go_gr (ci := 4) (j := 0) C fh_in4 rfl (by decide) rfl q_138 dX4_count_107 (fun k29 => ?_)
    refine go_gi (ci := 0) (j := 11) C fh_in0 rfl (by decide) rfl q_52 dX4_count_110 (fun v30 => ?_)
    exact go_iret C Hr rfl dX4_count_113
  refine go_sw C (7 : Int32) 114 dX4_count_1 (by decide) (by decide) rfl rfl ?_ (fun hn35 => ?_)
  · refine go_aload_n C 0 rfl rfl dX4_count_114 ?_
    refine go_gr (ci := 4) (j := 0) C fh_in4 rfl (by decide) rfl q_138 dX4_count_115 (fun k32 => ?_)
    refine go_callVI C (st := []) [] (m_X0_heldCount E _ hok k32 σ3) (fun _ h => fh_ob_ok h) rfl rfl ⟨q_723, q_724, q_725, q_2, q_726⟩ pd_X0_heldCount rfl ⟨⟨Nat.le_of_ble_eq_true rfl, Nat.le_of_ble_eq_true rfl⟩, rfl, rfl⟩ (Nat.le_of_ble_eq_true rfl) dX4_count_118 (fun r34 σ33 => ?_)
    exact go_iret C Hr rfl dX4_count_121
  refine go_swd C 122 dX4_count_1 (by have hh0 := fh_ne (z := 0) hn6 (by decide); have hh1 := fh_ne (z := 1) hn9 (by decide); have hh2 := fh_ne (z := 2) hn15 (by decide); have hh3 := fh_ne (z := 3) hn19 (by decide); have hh4 := fh_ne (z := 4) hn25 (by decide); have hh5 := fh_ne (z := 5) hn28 (by decide); have hh6 := fh_ne (z := 6) hn31 (by decide); have hh7 := fh_ne (z := 7) hn35 (by decide); omega) rfl ?_
  refine go_aload_n C 0 rfl rfl dX4_count_122 ?_
  refine go_ldc C q_175 dX4_count_123 ?_
  refine go_callVI C (st := []) [.int ((-1000001 : Int32))] (m_X4_tell E _ hok k1 ((-1000001 : Int32)) σ3) (fun _ h => fh_ob_ok h) rfl rfl ⟨q_176, q_178, qs_0, q_1, q_179⟩ pd_X4_tell rfl ⟨⟨Nat.le_of_ble_eq_true rfl, Nat.le_of_ble_eq_true rfl⟩, rfl, rfl⟩ (Nat.le_of_ble_eq_true rfl) dX4_count_125 (fun r37 σ36 => ?_)
  exact go_iret C Hr rfl dX4_count_128
theorem m_X4_count (E : fh_E) (l : Launch) (hok : fh_ok E) (k1 : Nat) (a2 : Int32) (σ3 : fh_S) : fh_Met E l yX4_count cX4_count 2 ((some FieldType.int)) rm_X4_count fh_vI [.ref (fh_ad E k1), .int a2] σ3 (f_X4_count k1 a2 σ3) := fh_met hok (by decide +kernel) (Nat.le_of_ble_eq_true rfl) (fun M _ C Hr => g_X4_count C Hr k1 a2 σ3)
def f_X4_status_B19 (v11 : Int32) (k10 : Nat) (r15 : Int32 → Int32 → fh_S → Option (Int32 × fh_S)) : Int32 → Int32 → fh_S → Option (Int32 × fh_S) := fun x12 x13 σ14 => if v11 ≤ x13 then some (x12, σ14) else (fh_ld σ14 k10 x13).bind fun v16 => r15 (x12 + v16) (x13 + 1) σ14
def f_X4_status (k1 : Nat) (a2 : Int32) (σ3 : fh_S) : Option (Int32 × fh_S) := fh_ob 4 k1 (if a2 = ((-1 : Int32)) then (fh_gr 4 k1 6).bind fun k10 => (fh_ln k10).bind fun v11 => fh_fx (ρ := Int32 → Int32 → fh_S → Option (Int32 × fh_S)) (fun _ _ _ => none) (f_X4_status_B19 v11 k10) fh_fu ((0 : Int32)) ((0 : Int32)) σ3 else fh_cb (f_X4_isWithin a2 ((0 : Int32)) ((6 : Int32)) σ3) fun r5 σ4 => if r5 = 0 then fh_cb (f_X4_tell k1 ((-1000001 : Int32)) σ4) fun r7 σ6 => some (r7, σ6) else (fh_gr 4 k1 6).bind fun k8 => (fh_ld σ4 k8 a2).bind fun v9 => some (v9, σ4))
abbrev rm_X4_status : Room := { frames := 2, cells := 0, slots := 0, locals := 44 }
theorem pd_X4_status : yX4_status.cls ≠ "java/lang/invoke/MethodHandle" ∧ yX4_status.cls ≠ "java/lang/invoke/VarHandle" ∧ (parseMethodDescriptor yX4_status.desc).map (fun d => d.parameters.length) = some 1 := by decide +kernel
theorem dX4_status_0 : decode cX4_status 0 = .ok (.iload_n 1, 1) := by decide +kernel
theorem dX4_status_1 : decode cX4_status 1 = .ok (.iconst (-1), 1) := by decide +kernel
theorem dX4_status_2 : decode cX4_status 2 = .ok (.if_icmp .ne 43, 3) := by decide +kernel
theorem dX4_status_5 : decode cX4_status 5 = .ok (.iconst 0, 1) := by decide +kernel
theorem dX4_status_6 : decode cX4_status 6 = .ok (.istore_n 2, 1) := by decide +kernel
theorem dX4_status_7 : decode cX4_status 7 = .ok (.aload_n 0, 1) := by decide +kernel
theorem dX4_status_8 : decode cX4_status 8 = .ok (.getfield 45, 3) := by decide +kernel
theorem dX4_status_11 : decode cX4_status 11 = .ok (.astore_n 3, 1) := by decide +kernel
theorem dX4_status_12 : decode cX4_status 12 = .ok (.aload_n 3, 1) := by decide +kernel
theorem dX4_status_13 : decode cX4_status 13 = .ok (.arraylength, 1) := by decide +kernel
theorem dX4_status_14 : decode cX4_status 14 = .ok (.istore 4, 2) := by decide +kernel
theorem dX4_status_16 : decode cX4_status 16 = .ok (.iconst 0, 1) := by decide +kernel
theorem dX4_status_17 : decode cX4_status 17 = .ok (.istore 5, 2) := by decide +kernel
theorem dX4_status_19 : decode cX4_status 19 = .ok (.iload 5, 2) := by decide +kernel
theorem dX4_status_21 : decode cX4_status 21 = .ok (.iload 4, 2) := by decide +kernel
theorem dX4_status_23 : decode cX4_status 23 = .ok (.if_icmp .ge 20, 3) := by decide +kernel
theorem dX4_status_26 : decode cX4_status 26 = .ok (.aload_n 3, 1) := by decide +kernel
theorem dX4_status_27 : decode cX4_status 27 = .ok (.iload 5, 2) := by decide +kernel
theorem dX4_status_29 : decode cX4_status 29 = .ok (.iaload, 1) := by decide +kernel
theorem dX4_status_30 : decode cX4_status 30 = .ok (.istore 6, 2) := by decide +kernel
theorem dX4_status_32 : decode cX4_status 32 = .ok (.iload_n 2, 1) := by decide +kernel
theorem dX4_status_33 : decode cX4_status 33 = .ok (.iload 6, 2) := by decide +kernel
theorem dX4_status_35 : decode cX4_status 35 = .ok (.iadd, 1) := by decide +kernel
theorem dX4_status_36 : decode cX4_status 36 = .ok (.istore_n 2, 1) := by decide +kernel
theorem dX4_status_37 : decode cX4_status 37 = .ok (.iinc 5 1, 3) := by decide +kernel
theorem dX4_status_40 : decode cX4_status 40 = .ok (.goto (-21), 3) := by decide +kernel
theorem dX4_status_43 : decode cX4_status 43 = .ok (.iload_n 2, 1) := by decide +kernel
theorem dX4_status_44 : decode cX4_status 44 = .ok (.ireturn, 1) := by decide +kernel
theorem dX4_status_45 : decode cX4_status 45 = .ok (.iload_n 1, 1) := by decide +kernel
theorem dX4_status_46 : decode cX4_status 46 = .ok (.iconst 0, 1) := by decide +kernel
theorem dX4_status_47 : decode cX4_status 47 = .ok (.bipush 6, 2) := by decide +kernel
theorem dX4_status_49 : decode cX4_status 49 = .ok (.invokestatic 84, 3) := by decide +kernel
theorem dX4_status_52 : decode cX4_status 52 = .ok (.ifCond .eq 12, 3) := by decide +kernel
theorem dX4_status_55 : decode cX4_status 55 = .ok (.aload_n 0, 1) := by decide +kernel
theorem dX4_status_56 : decode cX4_status 56 = .ok (.getfield 45, 3) := by decide +kernel
theorem dX4_status_59 : decode cX4_status 59 = .ok (.iload_n 1, 1) := by decide +kernel
theorem dX4_status_60 : decode cX4_status 60 = .ok (.iaload, 1) := by decide +kernel
theorem dX4_status_61 : decode cX4_status 61 = .ok (.goto 9, 3) := by decide +kernel
theorem dX4_status_64 : decode cX4_status 64 = .ok (.aload_n 0, 1) := by decide +kernel
theorem dX4_status_65 : decode cX4_status 65 = .ok (.ldc 57, 2) := by decide +kernel
theorem dX4_status_67 : decode cX4_status 67 = .ok (.invokevirtual 58, 3) := by decide +kernel
theorem dX4_status_70 : decode cX4_status 70 = .ok (.ireturn, 1) := by decide +kernel
set_option maxHeartbeats 4000000 in
set_option maxRecDepth 100000 in
theorem g_X4_status {E : fh_E} {M : fh_M} (C : fh_Cx E M cX4_status 7 RX4 ((some FieldType.int)) rm_X4_status) (Hr : fh_Rt E M) (k1 : Nat) (a2 : Int32) (σ3 : fh_S) : fh_Go E M 7 fh_vI 0 [(0, .ref (fh_ad E k1)), (1, .int a2)] [] σ3 (f_X4_status k1 a2 σ3) := by
  have hok := fh_cok C
  refine go_ob ?_
  refine go_iload_n C 1 rfl rfl dX4_status_0 ?_
  refine go_iconst C (-1 : Int32) dX4_status_1 rfl ?_
  refine go_icmp_ne (tgt := 45) C dX4_status_2 rfl (fun _ => ?_) (fun _ => ?_)
  · refine go_iload_n C 1 rfl rfl dX4_status_45 ?_
    refine go_iconst C (0 : Int32) dX4_status_46 rfl ?_
    refine go_bipush C (6 : Int32) dX4_status_47 rfl ?_
    refine go_callSI C (st := []) [.int a2, .int ((0 : Int32)), .int ((6 : Int32))] (m_X4_isWithin E _ hok a2 ((0 : Int32)) ((6 : Int32)) σ3) rfl ⟨q_172, q_173, q_1, q_174⟩ pd_X4_isWithin rfl ⟨⟨Nat.le_of_ble_eq_true rfl, Nat.le_of_ble_eq_true rfl⟩, rfl, rfl⟩ (Nat.le_of_ble_eq_true rfl) dX4_status_49 (fun r5 σ4 => ?_)
    refine go_if_eq (tgt := 64) C dX4_status_52 rfl (fun _ => ?_) (fun _ => ?_)
    · refine go_aload_n C 0 rfl rfl dX4_status_64 ?_
      refine go_ldc C q_175 dX4_status_65 ?_
      refine go_callVI C (st := []) [.int ((-1000001 : Int32))] (m_X4_tell E _ hok k1 ((-1000001 : Int32)) σ4) (fun _ h => fh_ob_ok h) rfl rfl ⟨q_176, q_178, qs_0, q_1, q_179⟩ pd_X4_tell rfl ⟨⟨Nat.le_of_ble_eq_true rfl, Nat.le_of_ble_eq_true rfl⟩, rfl, rfl⟩ (Nat.le_of_ble_eq_true rfl) dX4_status_67 (fun r7 σ6 => ?_)
      exact go_iret C Hr rfl dX4_status_70
    · refine go_aload_n C 0 rfl rfl dX4_status_55 ?_
      refine go_gr (ci := 4) (j := 6) C fh_in4 rfl (by decide) rfl q_144 dX4_status_56 (fun k8 => ?_)
      refine go_iload_n C 1 rfl rfl dX4_status_59 ?_
      refine go_iald C dX4_status_60 (fun v9 => ?_)
      refine go_goto C 70 dX4_status_61 rfl ?_
      exact go_iret C Hr rfl dX4_status_70
  · refine go_iconst C (0 : Int32) dX4_status_5 rfl ?_
    refine go_istore_n C [(2, .int ((0 : Int32))), (0, .ref (fh_ad E k1)), (1, .int a2)] rfl rfl (by decide) dX4_status_6 ?_
    refine go_aload_n C 1 rfl rfl dX4_status_7 ?_
    refine go_gr (ci := 4) (j := 6) C fh_in4 rfl (by decide) rfl q_144 dX4_status_8 (fun k10 => ?_)
    refine go_astore_n C [(3, .ref (fh_ad E k10)), (2, .int ((0 : Int32))), (0, .ref (fh_ad E k1)), (1, .int a2)] rfl rfl (by decide) dX4_status_11 ?_
    refine go_aload_n C 0 rfl rfl dX4_status_12 ?_
    refine go_alen C dX4_status_13 (fun v11 => ?_)
    refine go_istore C [(4, .int v11), (3, .ref (fh_ad E k10)), (2, .int ((0 : Int32))), (0, .ref (fh_ad E k1)), (1, .int a2)] rfl (by decide) dX4_status_14 ?_
    refine go_iconst C (0 : Int32) dX4_status_16 rfl ?_
    refine go_istore C [(5, .int ((0 : Int32))), (4, .int v11), (3, .ref (fh_ad E k10)), (2, .int ((0 : Int32))), (0, .ref (fh_ad E k1)), (1, .int a2)] rfl (by decide) dX4_status_17 ?_
    refine go_lv [3, 2, 1, 0] (lv' := [(2, .int ((0 : Int32))), (3, .ref (fh_ad E k10)), (4, .int v11), (5, .int ((0 : Int32)))]) rfl ?_
    refine go_fx (fun (r15 : Int32 → Int32 → fh_S → Option (Int32 × fh_S)) => ∀ (x12 : Int32) (x13 : Int32) (σ14 : fh_S), fh_Go E M 7 fh_vI 19 [(2, .int x12), (3, .ref (fh_ad E k10)), (4, .int v11), (5, .int x13)] [] σ14 (r15 x12 x13 σ14)) ?_ ?_ fh_fu ((0 : Int32)) ((0 : Int32)) σ3
    · intro x12 x13 σ14
      exact go_none
    · intro r15 hr15 x12 x13 σ14
      refine go_iload C 3 rfl dX4_status_19 ?_
      refine go_iload C 2 rfl dX4_status_21 ?_
      refine go_icmp_ge (tgt := 43) C dX4_status_23 rfl (fun _ => ?_) (fun _ => ?_)
      · refine go_iload_n C 0 rfl rfl dX4_status_43 ?_
        exact go_iret C Hr rfl dX4_status_44
      · refine go_aload_n C 1 rfl rfl dX4_status_26 ?_
        refine go_iload C 3 rfl dX4_status_27 ?_
        refine go_iald C dX4_status_29 (fun v16 => ?_)
        refine go_istore C [(6, .int v16), (2, .int x12), (3, .ref (fh_ad E k10)), (4, .int v11), (5, .int x13)] rfl (by decide) dX4_status_30 ?_
        refine go_iload_n C 1 rfl rfl dX4_status_32 ?_
        refine go_iload C 0 rfl dX4_status_33 ?_
        refine go_iadd C dX4_status_35 ?_
        refine go_istore_n C [(2, .int (x12 + v16)), (6, .int v16), (3, .ref (fh_ad E k10)), (4, .int v11), (5, .int x13)] rfl rfl (by decide) dX4_status_36 ?_
        refine go_iinc C (x13 + 1) 4 [(5, .int (x13 + 1)), (2, .int (x12 + v16)), (6, .int v16), (3, .ref (fh_ad E k10)), (4, .int v11)] rfl rfl rfl (by decide) dX4_status_37 ?_
        refine go_goto C 19 dX4_status_40 rfl ?_
        refine go_lv [1, 3, 4, 0] (lv' := [(2, .int (x12 + v16)), (3, .ref (fh_ad E k10)), (4, .int v11), (5, .int (x13 + 1))]) rfl ?_
        exact hr15 (x12 + v16) (x13 + 1) σ14
theorem m_X4_status (E : fh_E) (l : Launch) (hok : fh_ok E) (k1 : Nat) (a2 : Int32) (σ3 : fh_S) : fh_Met E l yX4_status cX4_status 7 ((some FieldType.int)) rm_X4_status fh_vI [.ref (fh_ad E k1), .int a2] σ3 (f_X4_status k1 a2 σ3) := fh_met hok (by decide +kernel) (Nat.le_of_ble_eq_true rfl) (fun M _ C Hr => g_X4_status C Hr k1 a2 σ3)
def f_X5_finding (k1 : Nat) (a2 : Int32) (σ3 : fh_S) : Option (Int32 × fh_S) := fh_ob 5 k1 ((fh_gr 5 k1 4).bind fun k4 => (fh_ld σ3 k4 ((((-1000001 : Int32)) - a2) + ((1 : Int32)))).bind fun v5 => (fh_st σ3 k4 ((((-1000001 : Int32)) - a2) + ((1 : Int32))) (v5 + ((1 : Int32)))).bind fun σ6 => (fh_gr 5 k1 4).bind fun k7 => (fh_ld σ6 k7 ((0 : Int32))).bind fun v8 => (fh_st σ6 k7 ((0 : Int32)) (v8 + ((1 : Int32)))).bind fun σ9 => some (a2, σ9))
abbrev rm_X5_finding : Room := { frames := 0, cells := 0, slots := 0, locals := 0 }
theorem pd_X5_finding : yX5_finding.cls ≠ "java/lang/invoke/MethodHandle" ∧ yX5_finding.cls ≠ "java/lang/invoke/VarHandle" ∧ (parseMethodDescriptor yX5_finding.desc).map (fun d => d.parameters.length) = some 1 := by decide +kernel
theorem dX5_finding_0 : decode cX5_finding 0 = .ok (.aload_n 0, 1) := by decide +kernel
theorem dX5_finding_1 : decode cX5_finding 1 = .ok (.getfield 19, 3) := by decide +kernel
theorem dX5_finding_4 : decode cX5_finding 4 = .ok (.ldc 63, 2) := by decide +kernel
theorem dX5_finding_6 : decode cX5_finding 6 = .ok (.iload_n 1, 1) := by decide +kernel
theorem dX5_finding_7 : decode cX5_finding 7 = .ok (.isub, 1) := by decide +kernel
theorem dX5_finding_8 : decode cX5_finding 8 = .ok (.iconst 1, 1) := by decide +kernel
theorem dX5_finding_9 : decode cX5_finding 9 = .ok (.iadd, 1) := by decide +kernel
theorem dX5_finding_10 : decode cX5_finding 10 = .ok (.dup2, 1) := by decide +kernel
theorem dX5_finding_11 : decode cX5_finding 11 = .ok (.iaload, 1) := by decide +kernel
theorem dX5_finding_12 : decode cX5_finding 12 = .ok (.iconst 1, 1) := by decide +kernel
theorem dX5_finding_13 : decode cX5_finding 13 = .ok (.iadd, 1) := by decide +kernel
theorem dX5_finding_14 : decode cX5_finding 14 = .ok (.iastore, 1) := by decide +kernel
theorem dX5_finding_15 : decode cX5_finding 15 = .ok (.aload_n 0, 1) := by decide +kernel
theorem dX5_finding_16 : decode cX5_finding 16 = .ok (.getfield 19, 3) := by decide +kernel
theorem dX5_finding_19 : decode cX5_finding 19 = .ok (.iconst 0, 1) := by decide +kernel
theorem dX5_finding_20 : decode cX5_finding 20 = .ok (.dup2, 1) := by decide +kernel
theorem dX5_finding_21 : decode cX5_finding 21 = .ok (.iaload, 1) := by decide +kernel
theorem dX5_finding_22 : decode cX5_finding 22 = .ok (.iconst 1, 1) := by decide +kernel
theorem dX5_finding_23 : decode cX5_finding 23 = .ok (.iadd, 1) := by decide +kernel
theorem dX5_finding_24 : decode cX5_finding 24 = .ok (.iastore, 1) := by decide +kernel
theorem dX5_finding_25 : decode cX5_finding 25 = .ok (.iload_n 1, 1) := by decide +kernel
theorem dX5_finding_26 : decode cX5_finding 26 = .ok (.ireturn, 1) := by decide +kernel
set_option maxHeartbeats 4000000 in
set_option maxRecDepth 100000 in
theorem g_X5_finding {E : fh_E} {M : fh_M} (C : fh_Cx E M cX5_finding 2 RX5 ((some FieldType.int)) rm_X5_finding) (Hr : fh_Rt E M) (k1 : Nat) (a2 : Int32) (σ3 : fh_S) : fh_Go E M 2 fh_vI 0 [(0, .ref (fh_ad E k1)), (1, .int a2)] [] σ3 (f_X5_finding k1 a2 σ3) := by
  have hok := fh_cok C
  refine go_ob ?_
  refine go_aload_n C 0 rfl rfl dX5_finding_0 ?_
  refine go_gr (ci := 5) (j := 4) C fh_in5 rfl (by decide) rfl q_750 dX5_finding_1 (fun k4 => ?_)
  refine go_ldc C q_820 dX5_finding_4 ?_
  refine go_iload_n C 1 rfl rfl dX5_finding_6 ?_
  refine go_isub C dX5_finding_7 ?_
  refine go_iconst C (1 : Int32) dX5_finding_8 rfl ?_
  refine go_iadd C dX5_finding_9 ?_
  refine go_dup2 C rfl rfl dX5_finding_10 ?_
  refine go_iald C dX5_finding_11 (fun v5 => ?_)
  refine go_iconst C (1 : Int32) dX5_finding_12 rfl ?_
  refine go_iadd C dX5_finding_13 ?_
  refine go_iast C dX5_finding_14 (fun σ6 => ?_)
  refine go_aload_n C 0 rfl rfl dX5_finding_15 ?_
  refine go_gr (ci := 5) (j := 4) C fh_in5 rfl (by decide) rfl q_750 dX5_finding_16 (fun k7 => ?_)
  refine go_iconst C (0 : Int32) dX5_finding_19 rfl ?_
  refine go_dup2 C rfl rfl dX5_finding_20 ?_
  refine go_iald C dX5_finding_21 (fun v8 => ?_)
  refine go_iconst C (1 : Int32) dX5_finding_22 rfl ?_
  refine go_iadd C dX5_finding_23 ?_
  refine go_iast C dX5_finding_24 (fun σ9 => ?_)
  refine go_iload_n C 1 rfl rfl dX5_finding_25 ?_
  exact go_iret C Hr rfl dX5_finding_26
theorem m_X5_finding (E : fh_E) (l : Launch) (hok : fh_ok E) (k1 : Nat) (a2 : Int32) (σ3 : fh_S) : fh_Met E l yX5_finding cX5_finding 2 ((some FieldType.int)) rm_X5_finding fh_vI [.ref (fh_ad E k1), .int a2] σ3 (f_X5_finding k1 a2 σ3) := fh_met hok (by decide +kernel) (Nat.le_of_ble_eq_true rfl) (fun M _ C Hr => g_X5_finding C Hr k1 a2 σ3)
def f_X5_within (a1 : Int32) (a2 : Int32) (a3 : Int32) (σ4 : fh_S) : Option (Int32 × fh_S) := if a1 < a2 then fh_rz ((0 : Int32)) σ4 else if a3 < a1 then fh_rz ((0 : Int32)) σ4 else fh_rz ((1 : Int32)) σ4
abbrev rm_X5_within : Room := { frames := 0, cells := 0, slots := 0, locals := 0 }
theorem pd_X5_within : yX5_within.cls ≠ "java/lang/invoke/MethodHandle" ∧ yX5_within.cls ≠ "java/lang/invoke/VarHandle" ∧ (parseMethodDescriptor yX5_within.desc).map (fun d => d.parameters.length) = some 3 := by decide +kernel
theorem dX5_within_0 : decode cX5_within 0 = .ok (.iload_n 0, 1) := by decide +kernel
theorem dX5_within_1 : decode cX5_within 1 = .ok (.iload_n 1, 1) := by decide +kernel
theorem dX5_within_2 : decode cX5_within 2 = .ok (.if_icmp .lt 12, 3) := by decide +kernel
theorem dX5_within_5 : decode cX5_within 5 = .ok (.iload_n 0, 1) := by decide +kernel
theorem dX5_within_6 : decode cX5_within 6 = .ok (.iload_n 2, 1) := by decide +kernel
theorem dX5_within_7 : decode cX5_within 7 = .ok (.if_icmp .gt 7, 3) := by decide +kernel
theorem dX5_within_10 : decode cX5_within 10 = .ok (.iconst 1, 1) := by decide +kernel
theorem dX5_within_11 : decode cX5_within 11 = .ok (.goto 4, 3) := by decide +kernel
theorem dX5_within_14 : decode cX5_within 14 = .ok (.iconst 0, 1) := by decide +kernel
theorem dX5_within_15 : decode cX5_within 15 = .ok (.ireturn, 1) := by decide +kernel
set_option maxHeartbeats 4000000 in
set_option maxRecDepth 100000 in
theorem g_X5_within {E : fh_E} {M : fh_M} (C : fh_Cx E M cX5_within 3 RX5 ((some FieldType.boolean)) rm_X5_within) (Hr : fh_Rt E M) (a1 : Int32) (a2 : Int32) (a3 : Int32) (σ4 : fh_S) : fh_Go E M 3 fh_vI 0 [(0, .int a1), (1, .int a2), (2, .int a3)] [] σ4 (f_X5_within a1 a2 a3 σ4) := by
  have hok := fh_cok C
  refine go_iload_n C 0 rfl rfl dX5_within_0 ?_
  refine go_iload_n C 1 rfl rfl dX5_within_1 ?_
  refine go_icmp_lt (tgt := 14) C dX5_within_2 rfl (fun _ => ?_) (fun _ => ?_)
  · refine go_iconst C (0 : Int32) dX5_within_14 rfl ?_
    exact go_zret C Hr dX5_within_15
  · refine go_iload_n C 0 rfl rfl dX5_within_5 ?_
    refine go_iload_n C 2 rfl rfl dX5_within_6 ?_
    refine go_icmp_gt (tgt := 14) C dX5_within_7 rfl (fun _ => ?_) (fun _ => ?_)
    · refine go_iconst C (0 : Int32) dX5_within_14 rfl ?_
      exact go_zret C Hr dX5_within_15
    · refine go_iconst C (1 : Int32) dX5_within_10 rfl ?_
      refine go_goto C 15 dX5_within_11 rfl ?_
      exact go_zret C Hr dX5_within_15
theorem m_X5_within (E : fh_E) (l : Launch) (hok : fh_ok E) (a1 : Int32) (a2 : Int32) (a3 : Int32) (σ4 : fh_S) : fh_Met E l yX5_within cX5_within 3 ((some FieldType.boolean)) rm_X5_within fh_vI [.int a1, .int a2, .int a3] σ4 (f_X5_within a1 a2 a3 σ4) := fh_met hok (by decide +kernel) (Nat.le_of_ble_eq_true rfl) (fun M _ C Hr => g_X5_within C Hr a1 a2 a3 σ4)
def f_X5_become (k1 : Nat) (a2 : Int32) (a3 : Int32) (σ4 : fh_S) : Option (Int32 × fh_S) := fh_ob 5 k1 ((fh_gr 5 k1 0).bind fun k5 => (fh_ld σ4 k5 a2).bind fun v6 => (fh_gr 5 k1 0).bind fun k7 => (fh_st σ4 k7 a2 a3).bind fun σ8 => some (v6, σ8))
abbrev rm_X5_become : Room := { frames := 0, cells := 0, slots := 0, locals := 0 }
theorem pd_X5_become : yX5_become.cls ≠ "java/lang/invoke/MethodHandle" ∧ yX5_become.cls ≠ "java/lang/invoke/VarHandle" ∧ (parseMethodDescriptor yX5_become.desc).map (fun d => d.parameters.length) = some 2 := by decide +kernel
theorem dX5_become_0 : decode cX5_become 0 = .ok (.aload_n 0, 1) := by decide +kernel
theorem dX5_become_1 : decode cX5_become 1 = .ok (.getfield 9, 3) := by decide +kernel
theorem dX5_become_4 : decode cX5_become 4 = .ok (.iload_n 1, 1) := by decide +kernel
theorem dX5_become_5 : decode cX5_become 5 = .ok (.iaload, 1) := by decide +kernel
theorem dX5_become_6 : decode cX5_become 6 = .ok (.istore_n 3, 1) := by decide +kernel
theorem dX5_become_7 : decode cX5_become 7 = .ok (.aload_n 0, 1) := by decide +kernel
theorem dX5_become_8 : decode cX5_become 8 = .ok (.getfield 9, 3) := by decide +kernel
theorem dX5_become_11 : decode cX5_become 11 = .ok (.iload_n 1, 1) := by decide +kernel
theorem dX5_become_12 : decode cX5_become 12 = .ok (.iload_n 2, 1) := by decide +kernel
theorem dX5_become_13 : decode cX5_become 13 = .ok (.iastore, 1) := by decide +kernel
theorem dX5_become_14 : decode cX5_become 14 = .ok (.iload_n 3, 1) := by decide +kernel
theorem dX5_become_15 : decode cX5_become 15 = .ok (.ireturn, 1) := by decide +kernel
set_option maxHeartbeats 4000000 in
set_option maxRecDepth 100000 in
theorem g_X5_become {E : fh_E} {M : fh_M} (C : fh_Cx E M cX5_become 4 RX5 ((some FieldType.int)) rm_X5_become) (Hr : fh_Rt E M) (k1 : Nat) (a2 : Int32) (a3 : Int32) (σ4 : fh_S) : fh_Go E M 4 fh_vI 0 [(0, .ref (fh_ad E k1)), (1, .int a2), (2, .int a3)] [] σ4 (f_X5_become k1 a2 a3 σ4) := by
  have hok := fh_cok C
  refine go_ob ?_
  refine go_aload_n C 0 rfl rfl dX5_become_0 ?_
  refine go_gr (ci := 5) (j := 0) C fh_in5 rfl (by decide) rfl q_746 dX5_become_1 (fun k5 => ?_)
  refine go_iload_n C 1 rfl rfl dX5_become_4 ?_
  refine go_iald C dX5_become_5 (fun v6 => ?_)
  refine go_istore_n C [(3, .int v6), (0, .ref (fh_ad E k1)), (1, .int a2), (2, .int a3)] rfl rfl (by decide) dX5_become_6 ?_
  refine go_aload_n C 1 rfl rfl dX5_become_7 ?_
  refine go_gr (ci := 5) (j := 0) C fh_in5 rfl (by decide) rfl q_746 dX5_become_8 (fun k7 => ?_)
  refine go_iload_n C 2 rfl rfl dX5_become_11 ?_
  refine go_iload_n C 3 rfl rfl dX5_become_12 ?_
  refine go_iast C dX5_become_13 (fun σ8 => ?_)
  refine go_iload_n C 0 rfl rfl dX5_become_14 ?_
  exact go_iret C Hr rfl dX5_become_15
theorem m_X5_become (E : fh_E) (l : Launch) (hok : fh_ok E) (k1 : Nat) (a2 : Int32) (a3 : Int32) (σ4 : fh_S) : fh_Met E l yX5_become cX5_become 4 ((some FieldType.int)) rm_X5_become fh_vI [.ref (fh_ad E k1), .int a2, .int a3] σ4 (f_X5_become k1 a2 a3 σ4) := fh_met hok (by decide +kernel) (Nat.le_of_ble_eq_true rfl) (fun M _ C Hr => g_X5_become C Hr k1 a2 a3 σ4)
def f_X5_copyRow_B2 (k1 : Nat) (k2 : Nat) (r6 : Int32 → fh_S → Option (Unit × fh_S)) : Int32 → fh_S → Option (Unit × fh_S) := fun x4 σ5 => if ((73 : Int32)) ≤ x4 then some ((), σ5) else (fh_ld σ5 k1 x4).bind fun v7 => (fh_st σ5 k2 x4 v7).bind fun σ8 => r6 (x4 + 1) σ8
def f_X5_copyRow (k1 : Nat) (k2 : Nat) (σ3 : fh_S) : Option (Unit × fh_S) := fh_fx (ρ := Int32 → fh_S → Option (Unit × fh_S)) (fun _ _ => none) (f_X5_copyRow_B2 k1 k2) fh_fu ((0 : Int32)) σ3
abbrev rm_X5_copyRow : Room := { frames := 0, cells := 0, slots := 0, locals := 0 }
theorem pd_X5_copyRow : yX5_copyRow.cls ≠ "java/lang/invoke/MethodHandle" ∧ yX5_copyRow.cls ≠ "java/lang/invoke/VarHandle" ∧ (parseMethodDescriptor yX5_copyRow.desc).map (fun d => d.parameters.length) = some 2 := by decide +kernel
theorem dX5_copyRow_0 : decode cX5_copyRow 0 = .ok (.iconst 0, 1) := by decide +kernel
theorem dX5_copyRow_1 : decode cX5_copyRow 1 = .ok (.istore_n 2, 1) := by decide +kernel
theorem dX5_copyRow_2 : decode cX5_copyRow 2 = .ok (.iload_n 2, 1) := by decide +kernel
theorem dX5_copyRow_3 : decode cX5_copyRow 3 = .ok (.bipush 73, 2) := by decide +kernel
theorem dX5_copyRow_5 : decode cX5_copyRow 5 = .ok (.if_icmp .ge 15, 3) := by decide +kernel
theorem dX5_copyRow_8 : decode cX5_copyRow 8 = .ok (.aload_n 1, 1) := by decide +kernel
theorem dX5_copyRow_9 : decode cX5_copyRow 9 = .ok (.iload_n 2, 1) := by decide +kernel
theorem dX5_copyRow_10 : decode cX5_copyRow 10 = .ok (.aload_n 0, 1) := by decide +kernel
theorem dX5_copyRow_11 : decode cX5_copyRow 11 = .ok (.iload_n 2, 1) := by decide +kernel
theorem dX5_copyRow_12 : decode cX5_copyRow 12 = .ok (.iaload, 1) := by decide +kernel
theorem dX5_copyRow_13 : decode cX5_copyRow 13 = .ok (.iastore, 1) := by decide +kernel
theorem dX5_copyRow_14 : decode cX5_copyRow 14 = .ok (.iinc 2 1, 3) := by decide +kernel
theorem dX5_copyRow_17 : decode cX5_copyRow 17 = .ok (.goto (-15), 3) := by decide +kernel
theorem dX5_copyRow_20 : decode cX5_copyRow 20 = .ok (.return_, 1) := by decide +kernel
set_option maxHeartbeats 4000000 in
set_option maxRecDepth 100000 in
theorem g_X5_copyRow {E : fh_E} {M : fh_M} (C : fh_Cx E M cX5_copyRow 3 RX5 (none) rm_X5_copyRow) (Hr : fh_Rt E M) (k1 : Nat) (k2 : Nat) (σ3 : fh_S) : fh_Go E M 3 fh_vU 0 [(0, .ref (fh_ad E k1)), (1, .ref (fh_ad E k2))] [] σ3 (f_X5_copyRow k1 k2 σ3) := by
  have hok := fh_cok C
  refine go_iconst C (0 : Int32) dX5_copyRow_0 rfl ?_
  refine go_istore_n C [(2, .int ((0 : Int32))), (0, .ref (fh_ad E k1)), (1, .ref (fh_ad E k2))] rfl rfl (by decide) dX5_copyRow_1 ?_
  refine go_lv [1, 2, 0] (lv' := [(0, .ref (fh_ad E k1)), (1, .ref (fh_ad E k2)), (2, .int ((0 : Int32)))]) rfl ?_
  refine go_fx (fun (r6 : Int32 → fh_S → Option (Unit × fh_S)) => ∀ (x4 : Int32) (σ5 : fh_S), fh_Go E M 3 fh_vU 2 [(0, .ref (fh_ad E k1)), (1, .ref (fh_ad E k2)), (2, .int x4)] [] σ5 (r6 x4 σ5)) ?_ ?_ fh_fu ((0 : Int32)) σ3
  · intro x4 σ5
    exact go_none
  · intro r6 hr6 x4 σ5
    refine go_iload_n C 2 rfl rfl dX5_copyRow_2 ?_
    refine go_bipush C (73 : Int32) dX5_copyRow_3 rfl ?_
    refine go_icmp_ge (tgt := 20) C dX5_copyRow_5 rfl (fun _ => ?_) (fun _ => ?_)
    · exact go_vret C Hr rfl dX5_copyRow_20
    · refine go_aload_n C 1 rfl rfl dX5_copyRow_8 ?_
      refine go_iload_n C 2 rfl rfl dX5_copyRow_9 ?_
      refine go_aload_n C 0 rfl rfl dX5_copyRow_10 ?_
      refine go_iload_n C 2 rfl rfl dX5_copyRow_11 ?_
      refine go_iald C dX5_copyRow_12 (fun v7 => ?_)
      refine go_iast C dX5_copyRow_13 (fun σ8 => ?_)
      refine go_iinc C (x4 + 1) 2 [(2, .int (x4 + 1)), (0, .ref (fh_ad E k1)), (1, .ref (fh_ad E k2))] rfl rfl rfl (by decide) dX5_copyRow_14 ?_
      refine go_goto C 2 dX5_copyRow_17 rfl ?_
      refine go_lv [1, 2, 0] (lv' := [(0, .ref (fh_ad E k1)), (1, .ref (fh_ad E k2)), (2, .int (x4 + 1))]) rfl ?_
      exact hr6 (x4 + 1) σ8
theorem m_X5_copyRow (E : fh_E) (l : Launch) (hok : fh_ok E) (k1 : Nat) (k2 : Nat) (σ3 : fh_S) : fh_Met E l yX5_copyRow cX5_copyRow 3 (none) rm_X5_copyRow fh_vU [.ref (fh_ad E k1), .ref (fh_ad E k2)] σ3 (f_X5_copyRow k1 k2 σ3) := fh_met hok (by decide +kernel) (Nat.le_of_ble_eq_true rfl) (fun M _ C Hr => g_X5_copyRow C Hr k1 k2 σ3)
def f_X5_putBack (k1 : Nat) (a2 : Int32) (σ3 : fh_S) : Option (Int32 × fh_S) := fh_ob 5 k1 ((fh_gr 5 k1 2).bind fun k4 => (fh_gr 5 k1 0).bind fun k5 => fh_cb (f_X5_copyRow k4 k5 σ3) fun _ σ6 => some (a2, σ6))
abbrev rm_X5_putBack : Room := { frames := 1, cells := 0, slots := 0, locals := 22 }
theorem pd_X5_putBack : yX5_putBack.cls ≠ "java/lang/invoke/MethodHandle" ∧ yX5_putBack.cls ≠ "java/lang/invoke/VarHandle" ∧ (parseMethodDescriptor yX5_putBack.desc).map (fun d => d.parameters.length) = some 1 := by decide +kernel
theorem dX5_putBack_0 : decode cX5_putBack 0 = .ok (.aload_n 0, 1) := by decide +kernel
theorem dX5_putBack_1 : decode cX5_putBack 1 = .ok (.getfield 16, 3) := by decide +kernel
theorem dX5_putBack_4 : decode cX5_putBack 4 = .ok (.aload_n 0, 1) := by decide +kernel
theorem dX5_putBack_5 : decode cX5_putBack 5 = .ok (.getfield 9, 3) := by decide +kernel
theorem dX5_putBack_8 : decode cX5_putBack 8 = .ok (.invokestatic 64, 3) := by decide +kernel
theorem dX5_putBack_11 : decode cX5_putBack 11 = .ok (.iload_n 1, 1) := by decide +kernel
theorem dX5_putBack_12 : decode cX5_putBack 12 = .ok (.ireturn, 1) := by decide +kernel
set_option maxHeartbeats 4000000 in
set_option maxRecDepth 100000 in
theorem g_X5_putBack {E : fh_E} {M : fh_M} (C : fh_Cx E M cX5_putBack 2 RX5 ((some FieldType.int)) rm_X5_putBack) (Hr : fh_Rt E M) (k1 : Nat) (a2 : Int32) (σ3 : fh_S) : fh_Go E M 2 fh_vI 0 [(0, .ref (fh_ad E k1)), (1, .int a2)] [] σ3 (f_X5_putBack k1 a2 σ3) := by
  have hok := fh_cok C
  refine go_ob ?_
  refine go_aload_n C 0 rfl rfl dX5_putBack_0 ?_
  refine go_gr (ci := 5) (j := 2) C fh_in5 rfl (by decide) rfl q_748 dX5_putBack_1 (fun k4 => ?_)
  refine go_aload_n C 0 rfl rfl dX5_putBack_4 ?_
  refine go_gr (ci := 5) (j := 0) C fh_in5 rfl (by decide) rfl q_746 dX5_putBack_5 (fun k5 => ?_)
  refine go_callSU C (st := []) [.ref (fh_ad E k4), .ref (fh_ad E k5)] (m_X5_copyRow E _ hok k4 k5 σ3) rfl ⟨q_993, q_994, q_6, q_995⟩ pd_X5_copyRow rfl ⟨⟨Nat.le_of_ble_eq_true rfl, Nat.le_of_ble_eq_true rfl⟩, rfl, rfl⟩ (Nat.le_of_ble_eq_true rfl) dX5_putBack_8 (fun _ σ6 => ?_)
  refine go_iload_n C 1 rfl rfl dX5_putBack_11 ?_
  exact go_iret C Hr rfl dX5_putBack_12
theorem m_X5_putBack (E : fh_E) (l : Launch) (hok : fh_ok E) (k1 : Nat) (a2 : Int32) (σ3 : fh_S) : fh_Met E l yX5_putBack cX5_putBack 2 ((some FieldType.int)) rm_X5_putBack fh_vI [.ref (fh_ad E k1), .int a2] σ3 (f_X5_putBack k1 a2 σ3) := fh_met hok (by decide +kernel) (Nat.le_of_ble_eq_true rfl) (fun M _ C Hr => g_X5_putBack C Hr k1 a2 σ3)
def f_X5_orNone (k1 : Nat) (a2 : Int32) (σ3 : fh_S) : Option (Int32 × fh_S) := fh_ob 5 k1 (if 0 ≤ a2 then some (a2, σ3) else fh_cb (f_X5_finding k1 ((-1000004 : Int32)) σ3) fun r5 σ4 => some (r5, σ4))
abbrev rm_X5_orNone : Room := { frames := 1, cells := 0, slots := 0, locals := 21 }
theorem pd_X5_orNone : yX5_orNone.cls ≠ "java/lang/invoke/MethodHandle" ∧ yX5_orNone.cls ≠ "java/lang/invoke/VarHandle" ∧ (parseMethodDescriptor yX5_orNone.desc).map (fun d => d.parameters.length) = some 1 := by decide +kernel
theorem dX5_orNone_0 : decode cX5_orNone 0 = .ok (.iload_n 1, 1) := by decide +kernel
theorem dX5_orNone_1 : decode cX5_orNone 1 = .ok (.ifCond .ge 12, 3) := by decide +kernel
theorem dX5_orNone_4 : decode cX5_orNone 4 = .ok (.aload_n 0, 1) := by decide +kernel
theorem dX5_orNone_5 : decode cX5_orNone 5 = .ok (.ldc 68, 2) := by decide +kernel
theorem dX5_orNone_7 : decode cX5_orNone 7 = .ok (.invokevirtual 69, 3) := by decide +kernel
theorem dX5_orNone_10 : decode cX5_orNone 10 = .ok (.goto 4, 3) := by decide +kernel
theorem dX5_orNone_13 : decode cX5_orNone 13 = .ok (.iload_n 1, 1) := by decide +kernel
theorem dX5_orNone_14 : decode cX5_orNone 14 = .ok (.ireturn, 1) := by decide +kernel
set_option maxHeartbeats 4000000 in
set_option maxRecDepth 100000 in
theorem g_X5_orNone {E : fh_E} {M : fh_M} (C : fh_Cx E M cX5_orNone 2 RX5 ((some FieldType.int)) rm_X5_orNone) (Hr : fh_Rt E M) (k1 : Nat) (a2 : Int32) (σ3 : fh_S) : fh_Go E M 2 fh_vI 0 [(0, .ref (fh_ad E k1)), (1, .int a2)] [] σ3 (f_X5_orNone k1 a2 σ3) := by
  have hok := fh_cok C
  refine go_ob ?_
  refine go_iload_n C 1 rfl rfl dX5_orNone_0 ?_
  refine go_if_ge (tgt := 13) C dX5_orNone_1 rfl (fun _ => ?_) (fun _ => ?_)
  · refine go_iload_n C 1 rfl rfl dX5_orNone_13 ?_
    exact go_iret C Hr rfl dX5_orNone_14
  · refine go_aload_n C 0 rfl rfl dX5_orNone_4 ?_
    refine go_ldc C q_984 dX5_orNone_5 ?_
    refine go_callVI C (st := []) [.int ((-1000004 : Int32))] (m_X5_finding E _ hok k1 ((-1000004 : Int32)) σ3) (fun _ h => fh_ob_ok h) rfl rfl ⟨q_821, q_823, qs_19, q_6, q_824⟩ pd_X5_finding rfl ⟨⟨Nat.le_of_ble_eq_true rfl, Nat.le_of_ble_eq_true rfl⟩, rfl, rfl⟩ (Nat.le_of_ble_eq_true rfl) dX5_orNone_7 (fun r5 σ4 => ?_)
    refine go_goto C 14 dX5_orNone_10 rfl ?_
    exact go_iret C Hr rfl dX5_orNone_14
theorem m_X5_orNone (E : fh_E) (l : Launch) (hok : fh_ok E) (k1 : Nat) (a2 : Int32) (σ3 : fh_S) : fh_Met E l yX5_orNone cX5_orNone 2 ((some FieldType.int)) rm_X5_orNone fh_vI [.ref (fh_ad E k1), .int a2] σ3 (f_X5_orNone k1 a2 σ3) := fh_met hok (by decide +kernel) (Nat.le_of_ble_eq_true rfl) (fun M _ C Hr => g_X5_orNone C Hr k1 a2 σ3)
def f_X5_has (a1 : Int32) (a2 : Int32) (σ3 : fh_S) : Option (Int32 × fh_S) := if ((a1 >>> (a2 &&& 31)) &&& ((1 : Int32))) = ((1 : Int32)) then fh_rz ((1 : Int32)) σ3 else fh_rz ((0 : Int32)) σ3
abbrev rm_X5_has : Room := { frames := 0, cells := 0, slots := 0, locals := 0 }
theorem pd_X5_has : yX5_has.cls ≠ "java/lang/invoke/MethodHandle" ∧ yX5_has.cls ≠ "java/lang/invoke/VarHandle" ∧ (parseMethodDescriptor yX5_has.desc).map (fun d => d.parameters.length) = some 2 := by decide +kernel
theorem dX5_has_0 : decode cX5_has 0 = .ok (.iload_n 0, 1) := by decide +kernel
theorem dX5_has_1 : decode cX5_has 1 = .ok (.iload_n 1, 1) := by decide +kernel
theorem dX5_has_2 : decode cX5_has 2 = .ok (.ishr, 1) := by decide +kernel
theorem dX5_has_3 : decode cX5_has 3 = .ok (.iconst 1, 1) := by decide +kernel
theorem dX5_has_4 : decode cX5_has 4 = .ok (.iand, 1) := by decide +kernel
theorem dX5_has_5 : decode cX5_has 5 = .ok (.iconst 1, 1) := by decide +kernel
theorem dX5_has_6 : decode cX5_has 6 = .ok (.if_icmp .ne 7, 3) := by decide +kernel
theorem dX5_has_9 : decode cX5_has 9 = .ok (.iconst 1, 1) := by decide +kernel
theorem dX5_has_10 : decode cX5_has 10 = .ok (.goto 4, 3) := by decide +kernel
theorem dX5_has_13 : decode cX5_has 13 = .ok (.iconst 0, 1) := by decide +kernel
theorem dX5_has_14 : decode cX5_has 14 = .ok (.ireturn, 1) := by decide +kernel
set_option maxHeartbeats 4000000 in
set_option maxRecDepth 100000 in
theorem g_X5_has {E : fh_E} {M : fh_M} (C : fh_Cx E M cX5_has 2 RX5 ((some FieldType.boolean)) rm_X5_has) (Hr : fh_Rt E M) (a1 : Int32) (a2 : Int32) (σ3 : fh_S) : fh_Go E M 2 fh_vI 0 [(0, .int a1), (1, .int a2)] [] σ3 (f_X5_has a1 a2 σ3) := by
  have hok := fh_cok C
  refine go_iload_n C 0 rfl rfl dX5_has_0 ?_
  refine go_iload_n C 1 rfl rfl dX5_has_1 ?_
  refine go_ishr C dX5_has_2 ?_
  refine go_iconst C (1 : Int32) dX5_has_3 rfl ?_
  refine go_iand C dX5_has_4 ?_
  refine go_iconst C (1 : Int32) dX5_has_5 rfl ?_
  refine go_icmp_ne (tgt := 13) C dX5_has_6 rfl (fun _ => ?_) (fun _ => ?_)
  · refine go_iconst C (0 : Int32) dX5_has_13 rfl ?_
    exact go_zret C Hr dX5_has_14
  · refine go_iconst C (1 : Int32) dX5_has_9 rfl ?_
    refine go_goto C 14 dX5_has_10 rfl ?_
    exact go_zret C Hr dX5_has_14
theorem m_X5_has (E : fh_E) (l : Launch) (hok : fh_ok E) (a1 : Int32) (a2 : Int32) (σ3 : fh_S) : fh_Met E l yX5_has cX5_has 2 ((some FieldType.boolean)) rm_X5_has fh_vI [.int a1, .int a2] σ3 (f_X5_has a1 a2 σ3) := fh_met hok (by decide +kernel) (Nat.le_of_ble_eq_true rfl) (fun M _ C Hr => g_X5_has C Hr a1 a2 σ3)
def f_X5_bits_B4 (r6 : Int32 → Int32 → fh_S → Option (Int32 × fh_S)) : Int32 → Int32 → fh_S → Option (Int32 × fh_S) := fun x3 x4 σ5 => if x4 = 0 then some (x3, σ5) else r6 (x3 + 1) (x4 &&& (x4 - ((1 : Int32)))) σ5
def f_X5_bits (a1 : Int32) (σ2 : fh_S) : Option (Int32 × fh_S) := fh_fx (ρ := Int32 → Int32 → fh_S → Option (Int32 × fh_S)) (fun _ _ _ => none) (f_X5_bits_B4) fh_fu ((0 : Int32)) a1 σ2
abbrev rm_X5_bits : Room := { frames := 0, cells := 0, slots := 0, locals := 0 }
theorem pd_X5_bits : yX5_bits.cls ≠ "java/lang/invoke/MethodHandle" ∧ yX5_bits.cls ≠ "java/lang/invoke/VarHandle" ∧ (parseMethodDescriptor yX5_bits.desc).map (fun d => d.parameters.length) = some 1 := by decide +kernel
theorem dX5_bits_0 : decode cX5_bits 0 = .ok (.iconst 0, 1) := by decide +kernel
theorem dX5_bits_1 : decode cX5_bits 1 = .ok (.istore_n 1, 1) := by decide +kernel
theorem dX5_bits_2 : decode cX5_bits 2 = .ok (.iload_n 0, 1) := by decide +kernel
theorem dX5_bits_3 : decode cX5_bits 3 = .ok (.istore_n 2, 1) := by decide +kernel
theorem dX5_bits_4 : decode cX5_bits 4 = .ok (.iload_n 2, 1) := by decide +kernel
theorem dX5_bits_5 : decode cX5_bits 5 = .ok (.ifCond .eq 15, 3) := by decide +kernel
theorem dX5_bits_8 : decode cX5_bits 8 = .ok (.iinc 1 1, 3) := by decide +kernel
theorem dX5_bits_11 : decode cX5_bits 11 = .ok (.iload_n 2, 1) := by decide +kernel
theorem dX5_bits_12 : decode cX5_bits 12 = .ok (.iload_n 2, 1) := by decide +kernel
theorem dX5_bits_13 : decode cX5_bits 13 = .ok (.iconst 1, 1) := by decide +kernel
theorem dX5_bits_14 : decode cX5_bits 14 = .ok (.isub, 1) := by decide +kernel
theorem dX5_bits_15 : decode cX5_bits 15 = .ok (.iand, 1) := by decide +kernel
theorem dX5_bits_16 : decode cX5_bits 16 = .ok (.istore_n 2, 1) := by decide +kernel
theorem dX5_bits_17 : decode cX5_bits 17 = .ok (.goto (-13), 3) := by decide +kernel
theorem dX5_bits_20 : decode cX5_bits 20 = .ok (.iload_n 1, 1) := by decide +kernel
theorem dX5_bits_21 : decode cX5_bits 21 = .ok (.ireturn, 1) := by decide +kernel
set_option maxHeartbeats 4000000 in
set_option maxRecDepth 100000 in
theorem g_X5_bits {E : fh_E} {M : fh_M} (C : fh_Cx E M cX5_bits 3 RX5 ((some FieldType.int)) rm_X5_bits) (Hr : fh_Rt E M) (a1 : Int32) (σ2 : fh_S) : fh_Go E M 3 fh_vI 0 [(0, .int a1)] [] σ2 (f_X5_bits a1 σ2) := by
  have hok := fh_cok C
  refine go_iconst C (0 : Int32) dX5_bits_0 rfl ?_
  refine go_istore_n C [(1, .int ((0 : Int32))), (0, .int a1)] rfl rfl (by decide) dX5_bits_1 ?_
  refine go_iload_n C 1 rfl rfl dX5_bits_2 ?_
  refine go_istore_n C [(2, .int a1), (1, .int ((0 : Int32))), (0, .int a1)] rfl rfl (by decide) dX5_bits_3 ?_
  refine go_lv [1, 0] (lv' := [(1, .int ((0 : Int32))), (2, .int a1)]) rfl ?_
  refine go_fx (fun (r6 : Int32 → Int32 → fh_S → Option (Int32 × fh_S)) => ∀ (x3 : Int32) (x4 : Int32) (σ5 : fh_S), fh_Go E M 3 fh_vI 4 [(1, .int x3), (2, .int x4)] [] σ5 (r6 x3 x4 σ5)) ?_ ?_ fh_fu ((0 : Int32)) a1 σ2
  · intro x3 x4 σ5
    exact go_none
  · intro r6 hr6 x3 x4 σ5
    refine go_iload_n C 1 rfl rfl dX5_bits_4 ?_
    refine go_if_eq (tgt := 20) C dX5_bits_5 rfl (fun _ => ?_) (fun _ => ?_)
    · refine go_iload_n C 0 rfl rfl dX5_bits_20 ?_
      exact go_iret C Hr rfl dX5_bits_21
    · refine go_iinc C (x3 + 1) 0 [(1, .int (x3 + 1)), (2, .int x4)] rfl rfl rfl (by decide) dX5_bits_8 ?_
      refine go_iload_n C 1 rfl rfl dX5_bits_11 ?_
      refine go_iload_n C 1 rfl rfl dX5_bits_12 ?_
      refine go_iconst C (1 : Int32) dX5_bits_13 rfl ?_
      refine go_isub C dX5_bits_14 ?_
      refine go_iand C dX5_bits_15 ?_
      refine go_istore_n C [(2, .int (x4 &&& (x4 - ((1 : Int32))))), (1, .int (x3 + 1))] rfl rfl (by decide) dX5_bits_16 ?_
      refine go_goto C 4 dX5_bits_17 rfl ?_
      refine go_lv [1, 0] (lv' := [(1, .int (x3 + 1)), (2, .int (x4 &&& (x4 - ((1 : Int32)))))]) rfl ?_
      exact hr6 (x3 + 1) (x4 &&& (x4 - ((1 : Int32)))) σ5
theorem m_X5_bits (E : fh_E) (l : Launch) (hok : fh_ok E) (a1 : Int32) (σ2 : fh_S) : fh_Met E l yX5_bits cX5_bits 3 ((some FieldType.int)) rm_X5_bits fh_vI [.int a1] σ2 (f_X5_bits a1 σ2) := fh_met hok (by decide +kernel) (Nat.le_of_ble_eq_true rfl) (fun M _ C Hr => g_X5_bits C Hr a1 σ2)
def f_X5_isDial (k1 : Nat) (a2 : Int32) (σ3 : fh_S) : Option (Int32 × fh_S) := fh_ob 5 k1 ((fh_gr 5 k1 0).bind fun k4 => (fh_ld σ3 k4 ((1 : Int32))).bind fun v5 => fh_cb (f_X5_within a2 ((0 : Int32)) (v5 - ((1 : Int32))) σ3) fun r7 σ6 => fh_rz r7 σ6)
abbrev rm_X5_isDial : Room := { frames := 1, cells := 0, slots := 0, locals := 22 }
theorem pd_X5_isDial : yX5_isDial.cls ≠ "java/lang/invoke/MethodHandle" ∧ yX5_isDial.cls ≠ "java/lang/invoke/VarHandle" ∧ (parseMethodDescriptor yX5_isDial.desc).map (fun d => d.parameters.length) = some 1 := by decide +kernel
theorem dX5_isDial_0 : decode cX5_isDial 0 = .ok (.iload_n 1, 1) := by decide +kernel
theorem dX5_isDial_1 : decode cX5_isDial 1 = .ok (.iconst 0, 1) := by decide +kernel
theorem dX5_isDial_2 : decode cX5_isDial 2 = .ok (.aload_n 0, 1) := by decide +kernel
theorem dX5_isDial_3 : decode cX5_isDial 3 = .ok (.getfield 9, 3) := by decide +kernel
theorem dX5_isDial_6 : decode cX5_isDial 6 = .ok (.iconst 1, 1) := by decide +kernel
theorem dX5_isDial_7 : decode cX5_isDial 7 = .ok (.iaload, 1) := by decide +kernel
theorem dX5_isDial_8 : decode cX5_isDial 8 = .ok (.iconst 1, 1) := by decide +kernel
theorem dX5_isDial_9 : decode cX5_isDial 9 = .ok (.isub, 1) := by decide +kernel
theorem dX5_isDial_10 : decode cX5_isDial 10 = .ok (.invokestatic 73, 3) := by decide +kernel
theorem dX5_isDial_13 : decode cX5_isDial 13 = .ok (.ireturn, 1) := by decide +kernel
set_option maxHeartbeats 4000000 in
set_option maxRecDepth 100000 in
theorem g_X5_isDial {E : fh_E} {M : fh_M} (C : fh_Cx E M cX5_isDial 2 RX5 ((some FieldType.boolean)) rm_X5_isDial) (Hr : fh_Rt E M) (k1 : Nat) (a2 : Int32) (σ3 : fh_S) : fh_Go E M 2 fh_vI 0 [(0, .ref (fh_ad E k1)), (1, .int a2)] [] σ3 (f_X5_isDial k1 a2 σ3) := by
  have hok := fh_cok C
  refine go_ob ?_
  refine go_iload_n C 1 rfl rfl dX5_isDial_0 ?_
  refine go_iconst C (0 : Int32) dX5_isDial_1 rfl ?_
  refine go_aload_n C 0 rfl rfl dX5_isDial_2 ?_
  refine go_gr (ci := 5) (j := 0) C fh_in5 rfl (by decide) rfl q_746 dX5_isDial_3 (fun k4 => ?_)
  refine go_iconst C (1 : Int32) dX5_isDial_6 rfl ?_
  refine go_iald C dX5_isDial_7 (fun v5 => ?_)
  refine go_iconst C (1 : Int32) dX5_isDial_8 rfl ?_
  refine go_isub C dX5_isDial_9 ?_
  refine go_callSI C (st := []) [.int a2, .int ((0 : Int32)), .int (v5 - ((1 : Int32)))] (m_X5_within E _ hok a2 ((0 : Int32)) (v5 - ((1 : Int32))) σ3) rfl ⟨q_817, q_818, q_6, q_819⟩ pd_X5_within rfl ⟨⟨Nat.le_of_ble_eq_true rfl, Nat.le_of_ble_eq_true rfl⟩, rfl, rfl⟩ (Nat.le_of_ble_eq_true rfl) dX5_isDial_10 (fun r7 σ6 => ?_)
  exact go_zret C Hr dX5_isDial_13
theorem m_X5_isDial (E : fh_E) (l : Launch) (hok : fh_ok E) (k1 : Nat) (a2 : Int32) (σ3 : fh_S) : fh_Met E l yX5_isDial cX5_isDial 2 ((some FieldType.boolean)) rm_X5_isDial fh_vI [.ref (fh_ad E k1), .int a2] σ3 (f_X5_isDial k1 a2 σ3) := fh_met hok (by decide +kernel) (Nat.le_of_ble_eq_true rfl) (fun M _ C Hr => g_X5_isDial C Hr k1 a2 σ3)
def f_X5_isKind (a1 : Int32) (σ2 : fh_S) : Option (Int32 × fh_S) := fh_cb (f_X5_within a1 ((0 : Int32)) ((6 : Int32)) σ2) fun r4 σ3 => fh_rz r4 σ3
abbrev rm_X5_isKind : Room := { frames := 1, cells := 0, slots := 0, locals := 22 }
theorem pd_X5_isKind : yX5_isKind.cls ≠ "java/lang/invoke/MethodHandle" ∧ yX5_isKind.cls ≠ "java/lang/invoke/VarHandle" ∧ (parseMethodDescriptor yX5_isKind.desc).map (fun d => d.parameters.length) = some 1 := by decide +kernel
theorem dX5_isKind_0 : decode cX5_isKind 0 = .ok (.iload_n 0, 1) := by decide +kernel
theorem dX5_isKind_1 : decode cX5_isKind 1 = .ok (.iconst 0, 1) := by decide +kernel
theorem dX5_isKind_2 : decode cX5_isKind 2 = .ok (.bipush 6, 2) := by decide +kernel
theorem dX5_isKind_4 : decode cX5_isKind 4 = .ok (.invokestatic 73, 3) := by decide +kernel
theorem dX5_isKind_7 : decode cX5_isKind 7 = .ok (.ireturn, 1) := by decide +kernel
set_option maxHeartbeats 4000000 in
set_option maxRecDepth 100000 in
theorem g_X5_isKind {E : fh_E} {M : fh_M} (C : fh_Cx E M cX5_isKind 1 RX5 ((some FieldType.boolean)) rm_X5_isKind) (Hr : fh_Rt E M) (a1 : Int32) (σ2 : fh_S) : fh_Go E M 1 fh_vI 0 [(0, .int a1)] [] σ2 (f_X5_isKind a1 σ2) := by
  have hok := fh_cok C
  refine go_iload_n C 0 rfl rfl dX5_isKind_0 ?_
  refine go_iconst C (0 : Int32) dX5_isKind_1 rfl ?_
  refine go_bipush C (6 : Int32) dX5_isKind_2 rfl ?_
  refine go_callSI C (st := []) [.int a1, .int ((0 : Int32)), .int ((6 : Int32))] (m_X5_within E _ hok a1 ((0 : Int32)) ((6 : Int32)) σ2) rfl ⟨q_817, q_818, q_6, q_819⟩ pd_X5_within rfl ⟨⟨Nat.le_of_ble_eq_true rfl, Nat.le_of_ble_eq_true rfl⟩, rfl, rfl⟩ (Nat.le_of_ble_eq_true rfl) dX5_isKind_4 (fun r4 σ3 => ?_)
  exact go_zret C Hr dX5_isKind_7
theorem m_X5_isKind (E : fh_E) (l : Launch) (hok : fh_ok E) (a1 : Int32) (σ2 : fh_S) : fh_Met E l yX5_isKind cX5_isKind 1 ((some FieldType.boolean)) rm_X5_isKind fh_vI [.int a1] σ2 (f_X5_isKind a1 σ2) := fh_met hok (by decide +kernel) (Nat.le_of_ble_eq_true rfl) (fun M _ C Hr => g_X5_isKind C Hr a1 σ2)
def f_X5_isHour (a1 : Int32) (σ2 : fh_S) : Option (Int32 × fh_S) := fh_cb (f_X5_within a1 ((0 : Int32)) ((719 : Int32)) σ2) fun r4 σ3 => fh_rz r4 σ3
abbrev rm_X5_isHour : Room := { frames := 1, cells := 0, slots := 0, locals := 22 }
theorem pd_X5_isHour : yX5_isHour.cls ≠ "java/lang/invoke/MethodHandle" ∧ yX5_isHour.cls ≠ "java/lang/invoke/VarHandle" ∧ (parseMethodDescriptor yX5_isHour.desc).map (fun d => d.parameters.length) = some 1 := by decide +kernel
theorem dX5_isHour_0 : decode cX5_isHour 0 = .ok (.iload_n 0, 1) := by decide +kernel
theorem dX5_isHour_1 : decode cX5_isHour 1 = .ok (.iconst 0, 1) := by decide +kernel
theorem dX5_isHour_2 : decode cX5_isHour 2 = .ok (.sipush 719, 3) := by decide +kernel
theorem dX5_isHour_5 : decode cX5_isHour 5 = .ok (.invokestatic 73, 3) := by decide +kernel
theorem dX5_isHour_8 : decode cX5_isHour 8 = .ok (.ireturn, 1) := by decide +kernel
set_option maxHeartbeats 4000000 in
set_option maxRecDepth 100000 in
theorem g_X5_isHour {E : fh_E} {M : fh_M} (C : fh_Cx E M cX5_isHour 1 RX5 ((some FieldType.boolean)) rm_X5_isHour) (Hr : fh_Rt E M) (a1 : Int32) (σ2 : fh_S) : fh_Go E M 1 fh_vI 0 [(0, .int a1)] [] σ2 (f_X5_isHour a1 σ2) := by
  have hok := fh_cok C
  refine go_iload_n C 0 rfl rfl dX5_isHour_0 ?_
  refine go_iconst C (0 : Int32) dX5_isHour_1 rfl ?_
  refine go_sipush C (719 : Int32) dX5_isHour_2 rfl ?_
  refine go_callSI C (st := []) [.int a1, .int ((0 : Int32)), .int ((719 : Int32))] (m_X5_within E _ hok a1 ((0 : Int32)) ((719 : Int32)) σ2) rfl ⟨q_817, q_818, q_6, q_819⟩ pd_X5_within rfl ⟨⟨Nat.le_of_ble_eq_true rfl, Nat.le_of_ble_eq_true rfl⟩, rfl, rfl⟩ (Nat.le_of_ble_eq_true rfl) dX5_isHour_5 (fun r4 σ3 => ?_)
  exact go_zret C Hr dX5_isHour_8
theorem m_X5_isHour (E : fh_E) (l : Launch) (hok : fh_ok E) (a1 : Int32) (σ2 : fh_S) : fh_Met E l yX5_isHour cX5_isHour 1 ((some FieldType.boolean)) rm_X5_isHour fh_vI [.int a1] σ2 (f_X5_isHour a1 σ2) := fh_met hok (by decide +kernel) (Nat.le_of_ble_eq_true rfl) (fun M _ C Hr => g_X5_isHour C Hr a1 σ2)
def f_X5_at (a1 : Int32) (a2 : Int32) (σ3 : fh_S) : Option (Int32 × fh_S) := some ((((13 : Int32)) + (((6 : Int32)) * a1)) + a2, σ3)
abbrev rm_X5_at : Room := { frames := 0, cells := 0, slots := 0, locals := 0 }
theorem pd_X5_at : yX5_at.cls ≠ "java/lang/invoke/MethodHandle" ∧ yX5_at.cls ≠ "java/lang/invoke/VarHandle" ∧ (parseMethodDescriptor yX5_at.desc).map (fun d => d.parameters.length) = some 2 := by decide +kernel
theorem dX5_at_0 : decode cX5_at 0 = .ok (.bipush 13, 2) := by decide +kernel
theorem dX5_at_2 : decode cX5_at 2 = .ok (.bipush 6, 2) := by decide +kernel
theorem dX5_at_4 : decode cX5_at 4 = .ok (.iload_n 0, 1) := by decide +kernel
theorem dX5_at_5 : decode cX5_at 5 = .ok (.imul, 1) := by decide +kernel
theorem dX5_at_6 : decode cX5_at 6 = .ok (.iadd, 1) := by decide +kernel
theorem dX5_at_7 : decode cX5_at 7 = .ok (.iload_n 1, 1) := by decide +kernel
theorem dX5_at_8 : decode cX5_at 8 = .ok (.iadd, 1) := by decide +kernel
theorem dX5_at_9 : decode cX5_at 9 = .ok (.ireturn, 1) := by decide +kernel
set_option maxHeartbeats 4000000 in
set_option maxRecDepth 100000 in
theorem g_X5_at {E : fh_E} {M : fh_M} (C : fh_Cx E M cX5_at 2 RX5 ((some FieldType.int)) rm_X5_at) (Hr : fh_Rt E M) (a1 : Int32) (a2 : Int32) (σ3 : fh_S) : fh_Go E M 2 fh_vI 0 [(0, .int a1), (1, .int a2)] [] σ3 (f_X5_at a1 a2 σ3) := by
  have hok := fh_cok C
  refine go_bipush C (13 : Int32) dX5_at_0 rfl ?_
  refine go_bipush C (6 : Int32) dX5_at_2 rfl ?_
  refine go_iload_n C 0 rfl rfl dX5_at_4 ?_
  refine go_imul C dX5_at_5 ?_
  refine go_iadd C dX5_at_6 ?_
  refine go_iload_n C 1 rfl rfl dX5_at_7 ?_
  refine go_iadd C dX5_at_8 ?_
  exact go_iret C Hr rfl dX5_at_9
theorem m_X5_at (E : fh_E) (l : Launch) (hok : fh_ok E) (a1 : Int32) (a2 : Int32) (σ3 : fh_S) : fh_Met E l yX5_at cX5_at 2 ((some FieldType.int)) rm_X5_at fh_vI [.int a1, .int a2] σ3 (f_X5_at a1 a2 σ3) := fh_met hok (by decide +kernel) (Nat.le_of_ble_eq_true rfl) (fun M _ C Hr => g_X5_at C Hr a1 a2 σ3)
def f_X5_dialIs (k1 : Nat) (a2 : Int32) (a3 : Int32) (σ4 : fh_S) : Option (Int32 × fh_S) := fh_ob 5 k1 ((fh_gr 5 k1 0).bind fun k5 => fh_cb (f_X5_at a2 a3 σ4) fun r7 σ6 => (fh_ld σ6 k5 r7).bind fun v8 => some (v8, σ6))
abbrev rm_X5_dialIs : Room := { frames := 1, cells := 0, slots := 0, locals := 21 }
theorem pd_X5_dialIs : yX5_dialIs.cls ≠ "java/lang/invoke/MethodHandle" ∧ yX5_dialIs.cls ≠ "java/lang/invoke/VarHandle" ∧ (parseMethodDescriptor yX5_dialIs.desc).map (fun d => d.parameters.length) = some 2 := by decide +kernel
theorem dX5_dialIs_0 : decode cX5_dialIs 0 = .ok (.aload_n 0, 1) := by decide +kernel
theorem dX5_dialIs_1 : decode cX5_dialIs 1 = .ok (.getfield 9, 3) := by decide +kernel
theorem dX5_dialIs_4 : decode cX5_dialIs 4 = .ok (.iload_n 1, 1) := by decide +kernel
theorem dX5_dialIs_5 : decode cX5_dialIs 5 = .ok (.iload_n 2, 1) := by decide +kernel
theorem dX5_dialIs_6 : decode cX5_dialIs 6 = .ok (.invokestatic 77, 3) := by decide +kernel
theorem dX5_dialIs_9 : decode cX5_dialIs 9 = .ok (.iaload, 1) := by decide +kernel
theorem dX5_dialIs_10 : decode cX5_dialIs 10 = .ok (.ireturn, 1) := by decide +kernel
set_option maxHeartbeats 4000000 in
set_option maxRecDepth 100000 in
theorem g_X5_dialIs {E : fh_E} {M : fh_M} (C : fh_Cx E M cX5_dialIs 3 RX5 ((some FieldType.int)) rm_X5_dialIs) (Hr : fh_Rt E M) (k1 : Nat) (a2 : Int32) (a3 : Int32) (σ4 : fh_S) : fh_Go E M 3 fh_vI 0 [(0, .ref (fh_ad E k1)), (1, .int a2), (2, .int a3)] [] σ4 (f_X5_dialIs k1 a2 a3 σ4) := by
  have hok := fh_cok C
  refine go_ob ?_
  refine go_aload_n C 0 rfl rfl dX5_dialIs_0 ?_
  refine go_gr (ci := 5) (j := 0) C fh_in5 rfl (by decide) rfl q_746 dX5_dialIs_1 (fun k5 => ?_)
  refine go_iload_n C 1 rfl rfl dX5_dialIs_4 ?_
  refine go_iload_n C 2 rfl rfl dX5_dialIs_5 ?_
  refine go_callSI C (st := [.ref (fh_ad E k5)]) [.int a2, .int a3] (m_X5_at E _ hok a2 a3 σ4) rfl ⟨q_830, q_831, q_6, q_832⟩ pd_X5_at rfl ⟨⟨Nat.le_of_ble_eq_true rfl, Nat.le_of_ble_eq_true rfl⟩, rfl, rfl⟩ (Nat.le_of_ble_eq_true rfl) dX5_dialIs_6 (fun r7 σ6 => ?_)
  refine go_iald C dX5_dialIs_9 (fun v8 => ?_)
  exact go_iret C Hr rfl dX5_dialIs_10
theorem m_X5_dialIs (E : fh_E) (l : Launch) (hok : fh_ok E) (k1 : Nat) (a2 : Int32) (a3 : Int32) (σ4 : fh_S) : fh_Met E l yX5_dialIs cX5_dialIs 3 ((some FieldType.int)) rm_X5_dialIs fh_vI [.ref (fh_ad E k1), .int a2, .int a3] σ4 (f_X5_dialIs k1 a2 a3 σ4) := fh_met hok (by decide +kernel) (Nat.le_of_ble_eq_true rfl) (fun M _ C Hr => g_X5_dialIs C Hr k1 a2 a3 σ4)
def f_X5_isStopped (k1 : Nat) (a2 : Int32) (σ3 : fh_S) : Option (Int32 × fh_S) := fh_ob 5 k1 (fh_cb (f_X5_dialIs k1 a2 ((4 : Int32)) σ3) fun r5 σ4 => if r5 = ((1 : Int32)) then fh_rz ((1 : Int32)) σ4 else fh_rz ((0 : Int32)) σ4)
abbrev rm_X5_isStopped : Room := { frames := 2, cells := 0, slots := 0, locals := 43 }
theorem pd_X5_isStopped : yX5_isStopped.cls ≠ "java/lang/invoke/MethodHandle" ∧ yX5_isStopped.cls ≠ "java/lang/invoke/VarHandle" ∧ (parseMethodDescriptor yX5_isStopped.desc).map (fun d => d.parameters.length) = some 1 := by decide +kernel
theorem dX5_isStopped_0 : decode cX5_isStopped 0 = .ok (.aload_n 0, 1) := by decide +kernel
theorem dX5_isStopped_1 : decode cX5_isStopped 1 = .ok (.iload_n 1, 1) := by decide +kernel
theorem dX5_isStopped_2 : decode cX5_isStopped 2 = .ok (.iconst 4, 1) := by decide +kernel
theorem dX5_isStopped_3 : decode cX5_isStopped 3 = .ok (.invokevirtual 81, 3) := by decide +kernel
theorem dX5_isStopped_6 : decode cX5_isStopped 6 = .ok (.iconst 1, 1) := by decide +kernel
theorem dX5_isStopped_7 : decode cX5_isStopped 7 = .ok (.if_icmp .ne 7, 3) := by decide +kernel
theorem dX5_isStopped_10 : decode cX5_isStopped 10 = .ok (.iconst 1, 1) := by decide +kernel
theorem dX5_isStopped_11 : decode cX5_isStopped 11 = .ok (.goto 4, 3) := by decide +kernel
theorem dX5_isStopped_14 : decode cX5_isStopped 14 = .ok (.iconst 0, 1) := by decide +kernel
theorem dX5_isStopped_15 : decode cX5_isStopped 15 = .ok (.ireturn, 1) := by decide +kernel
set_option maxHeartbeats 4000000 in
set_option maxRecDepth 100000 in
theorem g_X5_isStopped {E : fh_E} {M : fh_M} (C : fh_Cx E M cX5_isStopped 2 RX5 ((some FieldType.boolean)) rm_X5_isStopped) (Hr : fh_Rt E M) (k1 : Nat) (a2 : Int32) (σ3 : fh_S) : fh_Go E M 2 fh_vI 0 [(0, .ref (fh_ad E k1)), (1, .int a2)] [] σ3 (f_X5_isStopped k1 a2 σ3) := by
  have hok := fh_cok C
  refine go_ob ?_
  refine go_aload_n C 0 rfl rfl dX5_isStopped_0 ?_
  refine go_iload_n C 1 rfl rfl dX5_isStopped_1 ?_
  refine go_iconst C (4 : Int32) dX5_isStopped_2 rfl ?_
  refine go_callVI C (st := []) [.int a2, .int ((4 : Int32))] (m_X5_dialIs E _ hok k1 a2 ((4 : Int32)) σ3) (fun _ h => fh_ob_ok h) rfl rfl ⟨q_849, q_851, qs_24, q_6, q_852⟩ pd_X5_dialIs rfl ⟨⟨Nat.le_of_ble_eq_true rfl, Nat.le_of_ble_eq_true rfl⟩, rfl, rfl⟩ (Nat.le_of_ble_eq_true rfl) dX5_isStopped_3 (fun r5 σ4 => ?_)
  refine go_iconst C (1 : Int32) dX5_isStopped_6 rfl ?_
  refine go_icmp_ne (tgt := 14) C dX5_isStopped_7 rfl (fun _ => ?_) (fun _ => ?_)
  · refine go_iconst C (0 : Int32) dX5_isStopped_14 rfl ?_
    exact go_zret C Hr dX5_isStopped_15
  · refine go_iconst C (1 : Int32) dX5_isStopped_10 rfl ?_
    refine go_goto C 15 dX5_isStopped_11 rfl ?_
    exact go_zret C Hr dX5_isStopped_15
theorem m_X5_isStopped (E : fh_E) (l : Launch) (hok : fh_ok E) (k1 : Nat) (a2 : Int32) (σ3 : fh_S) : fh_Met E l yX5_isStopped cX5_isStopped 2 ((some FieldType.boolean)) rm_X5_isStopped fh_vI [.ref (fh_ad E k1), .int a2] σ3 (f_X5_isStopped k1 a2 σ3) := fh_met hok (by decide +kernel) (Nat.le_of_ble_eq_true rfl) (fun M _ C Hr => g_X5_isStopped C Hr k1 a2 σ3)
def f_X5_comes_J52 (k19 : Nat) (r21 : Int32) (k1 : Nat) (v10 : Int32) (a5 : Int32) (a6 : Int32) (a7 : Int32) : Int32 → fh_S → Option (Int32 × fh_S) := fun x22 σ23 => (fh_st σ23 k19 r21 x22).bind fun σ24 => (fh_gr 5 k1 0).bind fun k25 => fh_cb (f_X5_at v10 ((3 : Int32)) σ24) fun r27 σ26 => (fh_st σ26 k25 r27 a5).bind fun σ28 => (fh_gr 5 k1 0).bind fun k29 => fh_cb (f_X5_at v10 ((4 : Int32)) σ28) fun r31 σ30 => (fh_st σ30 k29 r31 a6).bind fun σ32 => (fh_gr 5 k1 0).bind fun k33 => fh_cb (f_X5_at v10 ((5 : Int32)) σ32) fun r35 σ34 => (fh_st σ34 k33 r35 a7).bind fun σ36 => (fh_gr 5 k1 0).bind fun k37 => (fh_ld σ36 k37 ((1 : Int32))).bind fun v38 => (fh_st σ36 k37 ((1 : Int32)) (v38 + ((1 : Int32)))).bind fun σ39 => some (v10, σ39)
def f_X5_comes (k1 : Nat) (a2 : Int32) (a3 : Int32) (a4 : Int32) (a5 : Int32) (a6 : Int32) (a7 : Int32) (σ8 : fh_S) : Option (Int32 × fh_S) := fh_ob 5 k1 ((fh_gr 5 k1 0).bind fun k9 => (fh_ld σ8 k9 ((1 : Int32))).bind fun v10 => (fh_gr 5 k1 0).bind fun k11 => fh_cb (f_X5_at v10 ((0 : Int32)) σ8) fun r13 σ12 => (fh_st σ12 k11 r13 a2).bind fun σ14 => (fh_gr 5 k1 0).bind fun k15 => fh_cb (f_X5_at v10 ((1 : Int32)) σ14) fun r17 σ16 => (fh_st σ16 k15 r17 a3).bind fun σ18 => (fh_gr 5 k1 0).bind fun k19 => fh_cb (f_X5_at v10 ((2 : Int32)) σ18) fun r21 σ20 => fh_jn (f_X5_comes_J52 k19 r21 k1 v10 a5 a6 a7) (fun j40 => if 0 ≤ a4 then j40 a4 σ20 else j40 v10 σ20))
abbrev rm_X5_comes : Room := { frames := 1, cells := 0, slots := 0, locals := 21 }
theorem pd_X5_comes : yX5_comes.cls ≠ "java/lang/invoke/MethodHandle" ∧ yX5_comes.cls ≠ "java/lang/invoke/VarHandle" ∧ (parseMethodDescriptor yX5_comes.desc).map (fun d => d.parameters.length) = some 6 := by decide +kernel
theorem dX5_comes_0 : decode cX5_comes 0 = .ok (.aload_n 0, 1) := by decide +kernel
theorem dX5_comes_1 : decode cX5_comes 1 = .ok (.getfield 9, 3) := by decide +kernel
theorem dX5_comes_4 : decode cX5_comes 4 = .ok (.iconst 1, 1) := by decide +kernel
theorem dX5_comes_5 : decode cX5_comes 5 = .ok (.iaload, 1) := by decide +kernel
theorem dX5_comes_6 : decode cX5_comes 6 = .ok (.istore 7, 2) := by decide +kernel
theorem dX5_comes_8 : decode cX5_comes 8 = .ok (.aload_n 0, 1) := by decide +kernel
theorem dX5_comes_9 : decode cX5_comes 9 = .ok (.getfield 9, 3) := by decide +kernel
theorem dX5_comes_12 : decode cX5_comes 12 = .ok (.iload 7, 2) := by decide +kernel
theorem dX5_comes_14 : decode cX5_comes 14 = .ok (.iconst 0, 1) := by decide +kernel
theorem dX5_comes_15 : decode cX5_comes 15 = .ok (.invokestatic 77, 3) := by decide +kernel
theorem dX5_comes_18 : decode cX5_comes 18 = .ok (.iload_n 1, 1) := by decide +kernel
theorem dX5_comes_19 : decode cX5_comes 19 = .ok (.iastore, 1) := by decide +kernel
theorem dX5_comes_20 : decode cX5_comes 20 = .ok (.aload_n 0, 1) := by decide +kernel
theorem dX5_comes_21 : decode cX5_comes 21 = .ok (.getfield 9, 3) := by decide +kernel
theorem dX5_comes_24 : decode cX5_comes 24 = .ok (.iload 7, 2) := by decide +kernel
theorem dX5_comes_26 : decode cX5_comes 26 = .ok (.iconst 1, 1) := by decide +kernel
theorem dX5_comes_27 : decode cX5_comes 27 = .ok (.invokestatic 77, 3) := by decide +kernel
theorem dX5_comes_30 : decode cX5_comes 30 = .ok (.iload_n 2, 1) := by decide +kernel
theorem dX5_comes_31 : decode cX5_comes 31 = .ok (.iastore, 1) := by decide +kernel
theorem dX5_comes_32 : decode cX5_comes 32 = .ok (.aload_n 0, 1) := by decide +kernel
theorem dX5_comes_33 : decode cX5_comes 33 = .ok (.getfield 9, 3) := by decide +kernel
theorem dX5_comes_36 : decode cX5_comes 36 = .ok (.iload 7, 2) := by decide +kernel
theorem dX5_comes_38 : decode cX5_comes 38 = .ok (.iconst 2, 1) := by decide +kernel
theorem dX5_comes_39 : decode cX5_comes 39 = .ok (.invokestatic 77, 3) := by decide +kernel
theorem dX5_comes_42 : decode cX5_comes 42 = .ok (.iload_n 3, 1) := by decide +kernel
theorem dX5_comes_43 : decode cX5_comes 43 = .ok (.ifCond .ge 8, 3) := by decide +kernel
theorem dX5_comes_46 : decode cX5_comes 46 = .ok (.iload 7, 2) := by decide +kernel
theorem dX5_comes_48 : decode cX5_comes 48 = .ok (.goto 4, 3) := by decide +kernel
theorem dX5_comes_51 : decode cX5_comes 51 = .ok (.iload_n 3, 1) := by decide +kernel
theorem dX5_comes_52 : decode cX5_comes 52 = .ok (.iastore, 1) := by decide +kernel
theorem dX5_comes_53 : decode cX5_comes 53 = .ok (.aload_n 0, 1) := by decide +kernel
theorem dX5_comes_54 : decode cX5_comes 54 = .ok (.getfield 9, 3) := by decide +kernel
theorem dX5_comes_57 : decode cX5_comes 57 = .ok (.iload 7, 2) := by decide +kernel
theorem dX5_comes_59 : decode cX5_comes 59 = .ok (.iconst 3, 1) := by decide +kernel
theorem dX5_comes_60 : decode cX5_comes 60 = .ok (.invokestatic 77, 3) := by decide +kernel
theorem dX5_comes_63 : decode cX5_comes 63 = .ok (.iload 4, 2) := by decide +kernel
theorem dX5_comes_65 : decode cX5_comes 65 = .ok (.iastore, 1) := by decide +kernel
theorem dX5_comes_66 : decode cX5_comes 66 = .ok (.aload_n 0, 1) := by decide +kernel
theorem dX5_comes_67 : decode cX5_comes 67 = .ok (.getfield 9, 3) := by decide +kernel
theorem dX5_comes_70 : decode cX5_comes 70 = .ok (.iload 7, 2) := by decide +kernel
theorem dX5_comes_72 : decode cX5_comes 72 = .ok (.iconst 4, 1) := by decide +kernel
theorem dX5_comes_73 : decode cX5_comes 73 = .ok (.invokestatic 77, 3) := by decide +kernel
theorem dX5_comes_76 : decode cX5_comes 76 = .ok (.iload 5, 2) := by decide +kernel
theorem dX5_comes_78 : decode cX5_comes 78 = .ok (.iastore, 1) := by decide +kernel
theorem dX5_comes_79 : decode cX5_comes 79 = .ok (.aload_n 0, 1) := by decide +kernel
theorem dX5_comes_80 : decode cX5_comes 80 = .ok (.getfield 9, 3) := by decide +kernel
theorem dX5_comes_83 : decode cX5_comes 83 = .ok (.iload 7, 2) := by decide +kernel
theorem dX5_comes_85 : decode cX5_comes 85 = .ok (.iconst 5, 1) := by decide +kernel
theorem dX5_comes_86 : decode cX5_comes 86 = .ok (.invokestatic 77, 3) := by decide +kernel
theorem dX5_comes_89 : decode cX5_comes 89 = .ok (.iload 6, 2) := by decide +kernel
theorem dX5_comes_91 : decode cX5_comes 91 = .ok (.iastore, 1) := by decide +kernel
theorem dX5_comes_92 : decode cX5_comes 92 = .ok (.aload_n 0, 1) := by decide +kernel
theorem dX5_comes_93 : decode cX5_comes 93 = .ok (.getfield 9, 3) := by decide +kernel
theorem dX5_comes_96 : decode cX5_comes 96 = .ok (.iconst 1, 1) := by decide +kernel
theorem dX5_comes_97 : decode cX5_comes 97 = .ok (.dup2, 1) := by decide +kernel
theorem dX5_comes_98 : decode cX5_comes 98 = .ok (.iaload, 1) := by decide +kernel
theorem dX5_comes_99 : decode cX5_comes 99 = .ok (.iconst 1, 1) := by decide +kernel
theorem dX5_comes_100 : decode cX5_comes 100 = .ok (.iadd, 1) := by decide +kernel
theorem dX5_comes_101 : decode cX5_comes 101 = .ok (.iastore, 1) := by decide +kernel
theorem dX5_comes_102 : decode cX5_comes 102 = .ok (.iload 7, 2) := by decide +kernel
theorem dX5_comes_104 : decode cX5_comes 104 = .ok (.ireturn, 1) := by decide +kernel
set_option maxHeartbeats 4000000 in
set_option maxRecDepth 100000 in
theorem g_X5_comes {E : fh_E} {M : fh_M} (C : fh_Cx E M cX5_comes 8 RX5 ((some FieldType.int)) rm_X5_comes) (Hr : fh_Rt E M) (k1 : Nat) (a2 : Int32) (a3 : Int32) (a4 : Int32) (a5 : Int32) (a6 : Int32) (a7 : Int32) (σ8 : fh_S) : fh_Go E M 8 fh_vI 0 [(0, .ref (fh_ad E k1)), (1, .int a2), (2, .int a3), (3, .int a4), (4, .int a5), (5, .int a6), (6, .int a7)] [] σ8 (f_X5_comes k1 a2 a3 a4 a5 a6 a7 σ8) := by
  have hok := fh_cok C
  refine go_ob ?_
  refine go_aload_n C 0 rfl rfl dX5_comes_0 ?_
  refine go_gr (ci := 5) (j := 0) C fh_in5 rfl (by decide) rfl q_746 dX5_comes_1 (fun k9 => ?_)
  refine go_iconst C (1 : Int32) dX5_comes_4 rfl ?_
  refine go_iald C dX5_comes_5 (fun v10 => ?_)
  refine go_istore C [(7, .int v10), (0, .ref (fh_ad E k1)), (1, .int a2), (2, .int a3), (3, .int a4), (4, .int a5), (5, .int a6), (6, .int a7)] rfl (by decide) dX5_comes_6 ?_
  refine go_aload_n C 1 rfl rfl dX5_comes_8 ?_
  refine go_gr (ci := 5) (j := 0) C fh_in5 rfl (by decide) rfl q_746 dX5_comes_9 (fun k11 => ?_)
  refine go_iload C 0 rfl dX5_comes_12 ?_
  refine go_iconst C (0 : Int32) dX5_comes_14 rfl ?_
  refine go_callSI C (st := [.ref (fh_ad E k11)]) [.int v10, .int ((0 : Int32))] (m_X5_at E _ hok v10 ((0 : Int32)) σ8) rfl ⟨q_830, q_831, q_6, q_832⟩ pd_X5_at rfl ⟨⟨Nat.le_of_ble_eq_true rfl, Nat.le_of_ble_eq_true rfl⟩, rfl, rfl⟩ (Nat.le_of_ble_eq_true rfl) dX5_comes_15 (fun r13 σ12 => ?_)
  refine go_iload_n C 2 rfl rfl dX5_comes_18 ?_
  refine go_iast C dX5_comes_19 (fun σ14 => ?_)
  refine go_aload_n C 1 rfl rfl dX5_comes_20 ?_
  refine go_gr (ci := 5) (j := 0) C fh_in5 rfl (by decide) rfl q_746 dX5_comes_21 (fun k15 => ?_)
  refine go_iload C 0 rfl dX5_comes_24 ?_
  refine go_iconst C (1 : Int32) dX5_comes_26 rfl ?_
  refine go_callSI C (st := [.ref (fh_ad E k15)]) [.int v10, .int ((1 : Int32))] (m_X5_at E _ hok v10 ((1 : Int32)) σ14) rfl ⟨q_830, q_831, q_6, q_832⟩ pd_X5_at rfl ⟨⟨Nat.le_of_ble_eq_true rfl, Nat.le_of_ble_eq_true rfl⟩, rfl, rfl⟩ (Nat.le_of_ble_eq_true rfl) dX5_comes_27 (fun r17 σ16 => ?_)
  refine go_iload_n C 3 rfl rfl dX5_comes_30 ?_
  refine go_iast C dX5_comes_31 (fun σ18 => ?_)
  refine go_aload_n C 1 rfl rfl dX5_comes_32 ?_
  refine go_gr (ci := 5) (j := 0) C fh_in5 rfl (by decide) rfl q_746 dX5_comes_33 (fun k19 => ?_)
  refine go_iload C 0 rfl dX5_comes_36 ?_
  refine go_iconst C (2 : Int32) dX5_comes_38 rfl ?_
  refine go_callSI C (st := [.ref (fh_ad E k19)]) [.int v10, .int ((2 : Int32))] (m_X5_at E _ hok v10 ((2 : Int32)) σ18) rfl ⟨q_830, q_831, q_6, q_832⟩ pd_X5_at rfl ⟨⟨Nat.le_of_ble_eq_true rfl, Nat.le_of_ble_eq_true rfl⟩, rfl, rfl⟩ (Nat.le_of_ble_eq_true rfl) dX5_comes_39 (fun r21 σ20 => ?_)
  refine go_iload_n C 4 rfl rfl dX5_comes_42 ?_
  refine go_jn (fun (j40 : Int32 → fh_S → Option (Int32 × fh_S)) => ∀ (x22 : Int32) (σ23 : fh_S), fh_Go E M 8 fh_vI 52 [(0, .ref (fh_ad E k1)), (4, .int a5), (5, .int a6), (6, .int a7), (7, .int v10)] [.int x22, .int r21, .ref (fh_ad E k19)] σ23 (j40 x22 σ23)) ?_ (fun j40 hj40 => ?_)
  · intro x22 σ23
    refine go_iast C dX5_comes_52 (fun σ24 => ?_)
    refine go_aload_n C 0 rfl rfl dX5_comes_53 ?_
    refine go_gr (ci := 5) (j := 0) C fh_in5 rfl (by decide) rfl q_746 dX5_comes_54 (fun k25 => ?_)
    refine go_iload C 4 rfl dX5_comes_57 ?_
    refine go_iconst C (3 : Int32) dX5_comes_59 rfl ?_
    refine go_callSI C (st := [.ref (fh_ad E k25)]) [.int v10, .int ((3 : Int32))] (m_X5_at E _ hok v10 ((3 : Int32)) σ24) rfl ⟨q_830, q_831, q_6, q_832⟩ pd_X5_at rfl ⟨⟨Nat.le_of_ble_eq_true rfl, Nat.le_of_ble_eq_true rfl⟩, rfl, rfl⟩ (Nat.le_of_ble_eq_true rfl) dX5_comes_60 (fun r27 σ26 => ?_)
    refine go_iload C 1 rfl dX5_comes_63 ?_
    refine go_iast C dX5_comes_65 (fun σ28 => ?_)
    refine go_aload_n C 0 rfl rfl dX5_comes_66 ?_
    refine go_gr (ci := 5) (j := 0) C fh_in5 rfl (by decide) rfl q_746 dX5_comes_67 (fun k29 => ?_)
    refine go_iload C 4 rfl dX5_comes_70 ?_
    refine go_iconst C (4 : Int32) dX5_comes_72 rfl ?_
    refine go_callSI C (st := [.ref (fh_ad E k29)]) [.int v10, .int ((4 : Int32))] (m_X5_at E _ hok v10 ((4 : Int32)) σ28) rfl ⟨q_830, q_831, q_6, q_832⟩ pd_X5_at rfl ⟨⟨Nat.le_of_ble_eq_true rfl, Nat.le_of_ble_eq_true rfl⟩, rfl, rfl⟩ (Nat.le_of_ble_eq_true rfl) dX5_comes_73 (fun r31 σ30 => ?_)
    refine go_iload C 2 rfl dX5_comes_76 ?_
    refine go_iast C dX5_comes_78 (fun σ32 => ?_)
    refine go_aload_n C 0 rfl rfl dX5_comes_79 ?_
    refine go_gr (ci := 5) (j := 0) C fh_in5 rfl (by decide) rfl q_746 dX5_comes_80 (fun k33 => ?_)
    refine go_iload C 4 rfl dX5_comes_83 ?_
    refine go_iconst C (5 : Int32) dX5_comes_85 rfl ?_
    refine go_callSI C (st := [.ref (fh_ad E k33)]) [.int v10, .int ((5 : Int32))] (m_X5_at E _ hok v10 ((5 : Int32)) σ32) rfl ⟨q_830, q_831, q_6, q_832⟩ pd_X5_at rfl ⟨⟨Nat.le_of_ble_eq_true rfl, Nat.le_of_ble_eq_true rfl⟩, rfl, rfl⟩ (Nat.le_of_ble_eq_true rfl) dX5_comes_86 (fun r35 σ34 => ?_)
    refine go_iload C 3 rfl dX5_comes_89 ?_
    refine go_iast C dX5_comes_91 (fun σ36 => ?_)
    refine go_aload_n C 0 rfl rfl dX5_comes_92 ?_
    refine go_gr (ci := 5) (j := 0) C fh_in5 rfl (by decide) rfl q_746 dX5_comes_93 (fun k37 => ?_)
    refine go_iconst C (1 : Int32) dX5_comes_96 rfl ?_
    refine go_dup2 C rfl rfl dX5_comes_97 ?_
    refine go_iald C dX5_comes_98 (fun v38 => ?_)
    refine go_iconst C (1 : Int32) dX5_comes_99 rfl ?_
    refine go_iadd C dX5_comes_100 ?_
    refine go_iast C dX5_comes_101 (fun σ39 => ?_)
    refine go_iload C 4 rfl dX5_comes_102 ?_
    exact go_iret C Hr rfl dX5_comes_104
  refine go_if_ge (tgt := 51) C dX5_comes_43 rfl (fun _ => ?_) (fun _ => ?_)
  · refine go_iload_n C 4 rfl rfl dX5_comes_51 ?_
    refine go_lv [1, 5, 6, 7, 0] (lv' := [(0, .ref (fh_ad E k1)), (4, .int a5), (5, .int a6), (6, .int a7), (7, .int v10)]) rfl ?_
    exact hj40 a4 σ20
  · refine go_iload C 0 rfl dX5_comes_46 ?_
    refine go_goto C 52 dX5_comes_48 rfl ?_
    refine go_lv [1, 5, 6, 7, 0] (lv' := [(0, .ref (fh_ad E k1)), (4, .int a5), (5, .int a6), (6, .int a7), (7, .int v10)]) rfl ?_
    exact hj40 v10 σ20
theorem m_X5_comes (E : fh_E) (l : Launch) (hok : fh_ok E) (k1 : Nat) (a2 : Int32) (a3 : Int32) (a4 : Int32) (a5 : Int32) (a6 : Int32) (a7 : Int32) (σ8 : fh_S) : fh_Met E l yX5_comes cX5_comes 8 ((some FieldType.int)) rm_X5_comes fh_vI [.ref (fh_ad E k1), .int a2, .int a3, .int a4, .int a5, .int a6, .int a7] σ8 (f_X5_comes k1 a2 a3 a4 a5 a6 a7 σ8) := fh_met hok (by decide +kernel) (Nat.le_of_ble_eq_true rfl) (fun M _ C Hr => g_X5_comes C Hr k1 a2 a3 a4 a5 a6 a7 σ8)
def f_X5_dial (k1 : Nat) (a2 : Int32) (σ3 : fh_S) : Option (Int32 × fh_S) := fh_ob 5 k1 (fh_cb (f_X5_isKind a2 σ3) fun r5 σ4 => if r5 = 0 then fh_cb (f_X5_finding k1 ((-1000001 : Int32)) σ4) fun r13 σ12 => some (r13, σ12) else (fh_gr 5 k1 0).bind fun k6 => (fh_ld σ4 k6 ((1 : Int32))).bind fun v7 => if v7 = ((10 : Int32)) then fh_cb (f_X5_finding k1 ((-1000002 : Int32)) σ4) fun r11 σ10 => some (r11, σ10) else fh_cb (f_X5_comes k1 a2 ((0 : Int32)) ((-1 : Int32)) ((1 : Int32)) ((0 : Int32)) ((0 : Int32)) σ4) fun r9 σ8 => some (r9, σ8))
abbrev rm_X5_dial : Room := { frames := 2, cells := 0, slots := 0, locals := 48 }
theorem pd_X5_dial : yX5_dial.cls ≠ "java/lang/invoke/MethodHandle" ∧ yX5_dial.cls ≠ "java/lang/invoke/VarHandle" ∧ (parseMethodDescriptor yX5_dial.desc).map (fun d => d.parameters.length) = some 1 := by decide +kernel
theorem dX5_dial_0 : decode cX5_dial 0 = .ok (.iload_n 1, 1) := by decide +kernel
theorem dX5_dial_1 : decode cX5_dial 1 = .ok (.invokestatic 84, 3) := by decide +kernel
theorem dX5_dial_4 : decode cX5_dial 4 = .ok (.ifCond .ne 10, 3) := by decide +kernel
theorem dX5_dial_7 : decode cX5_dial 7 = .ok (.aload_n 0, 1) := by decide +kernel
theorem dX5_dial_8 : decode cX5_dial 8 = .ok (.ldc 63, 2) := by decide +kernel
theorem dX5_dial_10 : decode cX5_dial 10 = .ok (.invokevirtual 69, 3) := by decide +kernel
theorem dX5_dial_13 : decode cX5_dial 13 = .ok (.ireturn, 1) := by decide +kernel
theorem dX5_dial_14 : decode cX5_dial 14 = .ok (.aload_n 0, 1) := by decide +kernel
theorem dX5_dial_15 : decode cX5_dial 15 = .ok (.getfield 9, 3) := by decide +kernel
theorem dX5_dial_18 : decode cX5_dial 18 = .ok (.iconst 1, 1) := by decide +kernel
theorem dX5_dial_19 : decode cX5_dial 19 = .ok (.iaload, 1) := by decide +kernel
theorem dX5_dial_20 : decode cX5_dial 20 = .ok (.bipush 10, 2) := by decide +kernel
theorem dX5_dial_22 : decode cX5_dial 22 = .ok (.if_icmp .ne 12, 3) := by decide +kernel
theorem dX5_dial_25 : decode cX5_dial 25 = .ok (.aload_n 0, 1) := by decide +kernel
theorem dX5_dial_26 : decode cX5_dial 26 = .ok (.ldc 88, 2) := by decide +kernel
theorem dX5_dial_28 : decode cX5_dial 28 = .ok (.invokevirtual 69, 3) := by decide +kernel
theorem dX5_dial_31 : decode cX5_dial 31 = .ok (.goto 13, 3) := by decide +kernel
theorem dX5_dial_34 : decode cX5_dial 34 = .ok (.aload_n 0, 1) := by decide +kernel
theorem dX5_dial_35 : decode cX5_dial 35 = .ok (.iload_n 1, 1) := by decide +kernel
theorem dX5_dial_36 : decode cX5_dial 36 = .ok (.iconst 0, 1) := by decide +kernel
theorem dX5_dial_37 : decode cX5_dial 37 = .ok (.iconst (-1), 1) := by decide +kernel
theorem dX5_dial_38 : decode cX5_dial 38 = .ok (.iconst 1, 1) := by decide +kernel
theorem dX5_dial_39 : decode cX5_dial 39 = .ok (.iconst 0, 1) := by decide +kernel
theorem dX5_dial_40 : decode cX5_dial 40 = .ok (.iconst 0, 1) := by decide +kernel
theorem dX5_dial_41 : decode cX5_dial 41 = .ok (.invokevirtual 89, 3) := by decide +kernel
theorem dX5_dial_44 : decode cX5_dial 44 = .ok (.ireturn, 1) := by decide +kernel
set_option maxHeartbeats 4000000 in
set_option maxRecDepth 100000 in
theorem g_X5_dial {E : fh_E} {M : fh_M} (C : fh_Cx E M cX5_dial 2 RX5 ((some FieldType.int)) rm_X5_dial) (Hr : fh_Rt E M) (k1 : Nat) (a2 : Int32) (σ3 : fh_S) : fh_Go E M 2 fh_vI 0 [(0, .ref (fh_ad E k1)), (1, .int a2)] [] σ3 (f_X5_dial k1 a2 σ3) := by
  have hok := fh_cok C
  refine go_ob ?_
  refine go_iload_n C 1 rfl rfl dX5_dial_0 ?_
  refine go_callSI C (st := []) [.int a2] (m_X5_isKind E _ hok a2 σ3) rfl ⟨q_814, q_815, q_6, q_816⟩ pd_X5_isKind rfl ⟨⟨Nat.le_of_ble_eq_true rfl, Nat.le_of_ble_eq_true rfl⟩, rfl, rfl⟩ (Nat.le_of_ble_eq_true rfl) dX5_dial_1 (fun r5 σ4 => ?_)
  refine go_if_ne (tgt := 14) C dX5_dial_4 rfl (fun _ => ?_) (fun _ => ?_)
  · refine go_aload_n C 0 rfl rfl dX5_dial_14 ?_
    refine go_gr (ci := 5) (j := 0) C fh_in5 rfl (by decide) rfl q_746 dX5_dial_15 (fun k6 => ?_)
    refine go_iconst C (1 : Int32) dX5_dial_18 rfl ?_
    refine go_iald C dX5_dial_19 (fun v7 => ?_)
    refine go_bipush C (10 : Int32) dX5_dial_20 rfl ?_
    refine go_icmp_ne (tgt := 34) C dX5_dial_22 rfl (fun _ => ?_) (fun _ => ?_)
    · refine go_aload_n C 0 rfl rfl dX5_dial_34 ?_
      refine go_iload_n C 1 rfl rfl dX5_dial_35 ?_
      refine go_iconst C (0 : Int32) dX5_dial_36 rfl ?_
      refine go_iconst C (-1 : Int32) dX5_dial_37 rfl ?_
      refine go_iconst C (1 : Int32) dX5_dial_38 rfl ?_
      refine go_iconst C (0 : Int32) dX5_dial_39 rfl ?_
      refine go_iconst C (0 : Int32) dX5_dial_40 rfl ?_
      refine go_callVI C (st := []) [.int a2, .int ((0 : Int32)), .int ((-1 : Int32)), .int ((1 : Int32)), .int ((0 : Int32)), .int ((0 : Int32))] (m_X5_comes E _ hok k1 a2 ((0 : Int32)) ((-1 : Int32)) ((1 : Int32)) ((0 : Int32)) ((0 : Int32)) σ4) (fun _ h => fh_ob_ok h) rfl rfl ⟨q_826, q_828, qs_20, q_6, q_829⟩ pd_X5_comes rfl ⟨⟨Nat.le_of_ble_eq_true rfl, Nat.le_of_ble_eq_true rfl⟩, rfl, rfl⟩ (Nat.le_of_ble_eq_true rfl) dX5_dial_41 (fun r9 σ8 => ?_)
      exact go_iret C Hr rfl dX5_dial_44
    · refine go_aload_n C 0 rfl rfl dX5_dial_25 ?_
      refine go_ldc C q_825 dX5_dial_26 ?_
      refine go_callVI C (st := []) [.int ((-1000002 : Int32))] (m_X5_finding E _ hok k1 ((-1000002 : Int32)) σ4) (fun _ h => fh_ob_ok h) rfl rfl ⟨q_821, q_823, qs_19, q_6, q_824⟩ pd_X5_finding rfl ⟨⟨Nat.le_of_ble_eq_true rfl, Nat.le_of_ble_eq_true rfl⟩, rfl, rfl⟩ (Nat.le_of_ble_eq_true rfl) dX5_dial_28 (fun r11 σ10 => ?_)
      refine go_goto C 44 dX5_dial_31 rfl ?_
      exact go_iret C Hr rfl dX5_dial_44
  · refine go_aload_n C 0 rfl rfl dX5_dial_7 ?_
    refine go_ldc C q_820 dX5_dial_8 ?_
    refine go_callVI C (st := []) [.int ((-1000001 : Int32))] (m_X5_finding E _ hok k1 ((-1000001 : Int32)) σ4) (fun _ h => fh_ob_ok h) rfl rfl ⟨q_821, q_823, qs_19, q_6, q_824⟩ pd_X5_finding rfl ⟨⟨Nat.le_of_ble_eq_true rfl, Nat.le_of_ble_eq_true rfl⟩, rfl, rfl⟩ (Nat.le_of_ble_eq_true rfl) dX5_dial_10 (fun r13 σ12 => ?_)
    exact go_iret C Hr rfl dX5_dial_13
theorem m_X5_dial (E : fh_E) (l : Launch) (hok : fh_ok E) (k1 : Nat) (a2 : Int32) (σ3 : fh_S) : fh_Met E l yX5_dial cX5_dial 2 ((some FieldType.int)) rm_X5_dial fh_vI [.ref (fh_ad E k1), .int a2] σ3 (f_X5_dial k1 a2 σ3) := fh_met hok (by decide +kernel) (Nat.le_of_ble_eq_true rfl) (fun M _ C Hr => g_X5_dial C Hr k1 a2 σ3)
def f_X5_above (a1 : Int32) (σ2 : fh_S) : Option (Int32 × fh_S) := if a1 = 0 then some ((-1 : Int32), σ2) else if a1 = ((3 : Int32)) then some ((2 : Int32), σ2) else if a1 = ((4 : Int32)) then some ((3 : Int32), σ2) else if a1 = ((6 : Int32)) then some ((1 : Int32), σ2) else some ((0 : Int32), σ2)
abbrev rm_X5_above : Room := { frames := 0, cells := 0, slots := 0, locals := 0 }
theorem pd_X5_above : yX5_above.cls ≠ "java/lang/invoke/MethodHandle" ∧ yX5_above.cls ≠ "java/lang/invoke/VarHandle" ∧ (parseMethodDescriptor yX5_above.desc).map (fun d => d.parameters.length) = some 1 := by decide +kernel
theorem dX5_above_0 : decode cX5_above 0 = .ok (.iload_n 0, 1) := by decide +kernel
theorem dX5_above_1 : decode cX5_above 1 = .ok (.ifCond .ne 7, 3) := by decide +kernel
theorem dX5_above_4 : decode cX5_above 4 = .ok (.iconst (-1), 1) := by decide +kernel
theorem dX5_above_5 : decode cX5_above 5 = .ok (.goto 32, 3) := by decide +kernel
theorem dX5_above_8 : decode cX5_above 8 = .ok (.iload_n 0, 1) := by decide +kernel
theorem dX5_above_9 : decode cX5_above 9 = .ok (.iconst 3, 1) := by decide +kernel
theorem dX5_above_10 : decode cX5_above 10 = .ok (.if_icmp .ne 7, 3) := by decide +kernel
theorem dX5_above_13 : decode cX5_above 13 = .ok (.iconst 2, 1) := by decide +kernel
theorem dX5_above_14 : decode cX5_above 14 = .ok (.goto 23, 3) := by decide +kernel
theorem dX5_above_17 : decode cX5_above 17 = .ok (.iload_n 0, 1) := by decide +kernel
theorem dX5_above_18 : decode cX5_above 18 = .ok (.iconst 4, 1) := by decide +kernel
theorem dX5_above_19 : decode cX5_above 19 = .ok (.if_icmp .ne 7, 3) := by decide +kernel
theorem dX5_above_22 : decode cX5_above 22 = .ok (.iconst 3, 1) := by decide +kernel
theorem dX5_above_23 : decode cX5_above 23 = .ok (.goto 14, 3) := by decide +kernel
theorem dX5_above_26 : decode cX5_above 26 = .ok (.iload_n 0, 1) := by decide +kernel
theorem dX5_above_27 : decode cX5_above 27 = .ok (.bipush 6, 2) := by decide +kernel
theorem dX5_above_29 : decode cX5_above 29 = .ok (.if_icmp .ne 7, 3) := by decide +kernel
theorem dX5_above_32 : decode cX5_above 32 = .ok (.iconst 1, 1) := by decide +kernel
theorem dX5_above_33 : decode cX5_above 33 = .ok (.goto 4, 3) := by decide +kernel
theorem dX5_above_36 : decode cX5_above 36 = .ok (.iconst 0, 1) := by decide +kernel
theorem dX5_above_37 : decode cX5_above 37 = .ok (.ireturn, 1) := by decide +kernel
set_option maxHeartbeats 4000000 in
set_option maxRecDepth 100000 in
theorem g_X5_above {E : fh_E} {M : fh_M} (C : fh_Cx E M cX5_above 1 RX5 ((some FieldType.int)) rm_X5_above) (Hr : fh_Rt E M) (a1 : Int32) (σ2 : fh_S) : fh_Go E M 1 fh_vI 0 [(0, .int a1)] [] σ2 (f_X5_above a1 σ2) := by
  have hok := fh_cok C
  refine go_iload_n C 0 rfl rfl dX5_above_0 ?_
  refine go_if_ne (tgt := 8) C dX5_above_1 rfl (fun _ => ?_) (fun _ => ?_)
  · refine go_iload_n C 0 rfl rfl dX5_above_8 ?_
    refine go_iconst C (3 : Int32) dX5_above_9 rfl ?_
    refine go_icmp_ne (tgt := 17) C dX5_above_10 rfl (fun _ => ?_) (fun _ => ?_)
    · refine go_iload_n C 0 rfl rfl dX5_above_17 ?_
      refine go_iconst C (4 : Int32) dX5_above_18 rfl ?_
      refine go_icmp_ne (tgt := 26) C dX5_above_19 rfl (fun _ => ?_) (fun _ => ?_)
      · refine go_iload_n C 0 rfl rfl dX5_above_26 ?_
        refine go_bipush C (6 : Int32) dX5_above_27 rfl ?_
        refine go_icmp_ne (tgt := 36) C dX5_above_29 rfl (fun _ => ?_) (fun _ => ?_)
        · refine go_iconst C (0 : Int32) dX5_above_36 rfl ?_
          exact go_iret C Hr rfl dX5_above_37
        · refine go_iconst C (1 : Int32) dX5_above_32 rfl ?_
          refine go_goto C 37 dX5_above_33 rfl ?_
          exact go_iret C Hr rfl dX5_above_37
      · refine go_iconst C (3 : Int32) dX5_above_22 rfl ?_
        refine go_goto C 37 dX5_above_23 rfl ?_
        exact go_iret C Hr rfl dX5_above_37
    · refine go_iconst C (2 : Int32) dX5_above_13 rfl ?_
      refine go_goto C 37 dX5_above_14 rfl ?_
      exact go_iret C Hr rfl dX5_above_37
  · refine go_iconst C (-1 : Int32) dX5_above_4 rfl ?_
    refine go_goto C 37 dX5_above_5 rfl ?_
    exact go_iret C Hr rfl dX5_above_37
theorem m_X5_above (E : fh_E) (l : Launch) (hok : fh_ok E) (a1 : Int32) (σ2 : fh_S) : fh_Met E l yX5_above cX5_above 1 ((some FieldType.int)) rm_X5_above fh_vI [.int a1] σ2 (f_X5_above a1 σ2) := fh_met hok (by decide +kernel) (Nat.le_of_ble_eq_true rfl) (fun M _ C Hr => g_X5_above C Hr a1 σ2)
def f_X5_isUnder_J19 (x4 : Int32) : fh_S → Option (Int32 × fh_S) := fun σ7 => if x4 < 0 then fh_rz ((0 : Int32)) σ7 else fh_rz ((1 : Int32)) σ7
def f_X5_isUnder_B2 (a2 : Int32) (r6 : Int32 → fh_S → Option (Int32 × fh_S)) : Int32 → fh_S → Option (Int32 × fh_S) := fun x4 σ5 => fh_jn (f_X5_isUnder_J19 x4) (fun j8 => if x4 < 0 then j8 σ5 else if x4 = a2 then j8 σ5 else fh_cb (f_X5_above x4 σ5) fun r10 σ9 => r6 r10 σ9)
def f_X5_isUnder (a1 : Int32) (a2 : Int32) (σ3 : fh_S) : Option (Int32 × fh_S) := fh_fx (ρ := Int32 → fh_S → Option (Int32 × fh_S)) (fun _ _ => none) (f_X5_isUnder_B2 a2) fh_fu a1 σ3
abbrev rm_X5_isUnder : Room := { frames := 1, cells := 0, slots := 0, locals := 20 }
theorem pd_X5_isUnder : yX5_isUnder.cls ≠ "java/lang/invoke/MethodHandle" ∧ yX5_isUnder.cls ≠ "java/lang/invoke/VarHandle" ∧ (parseMethodDescriptor yX5_isUnder.desc).map (fun d => d.parameters.length) = some 2 := by decide +kernel
theorem dX5_isUnder_0 : decode cX5_isUnder 0 = .ok (.iload_n 0, 1) := by decide +kernel
theorem dX5_isUnder_1 : decode cX5_isUnder 1 = .ok (.istore_n 2, 1) := by decide +kernel
theorem dX5_isUnder_2 : decode cX5_isUnder 2 = .ok (.iload_n 2, 1) := by decide +kernel
theorem dX5_isUnder_3 : decode cX5_isUnder 3 = .ok (.ifCond .lt 16, 3) := by decide +kernel
theorem dX5_isUnder_6 : decode cX5_isUnder 6 = .ok (.iload_n 2, 1) := by decide +kernel
theorem dX5_isUnder_7 : decode cX5_isUnder 7 = .ok (.iload_n 1, 1) := by decide +kernel
theorem dX5_isUnder_8 : decode cX5_isUnder 8 = .ok (.if_icmp .eq 11, 3) := by decide +kernel
theorem dX5_isUnder_11 : decode cX5_isUnder 11 = .ok (.iload_n 2, 1) := by decide +kernel
theorem dX5_isUnder_12 : decode cX5_isUnder 12 = .ok (.invokestatic 93, 3) := by decide +kernel
theorem dX5_isUnder_15 : decode cX5_isUnder 15 = .ok (.istore_n 2, 1) := by decide +kernel
theorem dX5_isUnder_16 : decode cX5_isUnder 16 = .ok (.goto (-14), 3) := by decide +kernel
theorem dX5_isUnder_19 : decode cX5_isUnder 19 = .ok (.iload_n 2, 1) := by decide +kernel
theorem dX5_isUnder_20 : decode cX5_isUnder 20 = .ok (.ifCond .lt 7, 3) := by decide +kernel
theorem dX5_isUnder_23 : decode cX5_isUnder 23 = .ok (.iconst 1, 1) := by decide +kernel
theorem dX5_isUnder_24 : decode cX5_isUnder 24 = .ok (.goto 4, 3) := by decide +kernel
theorem dX5_isUnder_27 : decode cX5_isUnder 27 = .ok (.iconst 0, 1) := by decide +kernel
theorem dX5_isUnder_28 : decode cX5_isUnder 28 = .ok (.ireturn, 1) := by decide +kernel
set_option maxHeartbeats 4000000 in
set_option maxRecDepth 100000 in
theorem g_X5_isUnder {E : fh_E} {M : fh_M} (C : fh_Cx E M cX5_isUnder 3 RX5 ((some FieldType.boolean)) rm_X5_isUnder) (Hr : fh_Rt E M) (a1 : Int32) (a2 : Int32) (σ3 : fh_S) : fh_Go E M 3 fh_vI 0 [(0, .int a1), (1, .int a2)] [] σ3 (f_X5_isUnder a1 a2 σ3) := by
  have hok := fh_cok C
  refine go_iload_n C 0 rfl rfl dX5_isUnder_0 ?_
  refine go_istore_n C [(2, .int a1), (0, .int a1), (1, .int a2)] rfl rfl (by decide) dX5_isUnder_1 ?_
  refine go_lv [2, 0] (lv' := [(1, .int a2), (2, .int a1)]) rfl ?_
  refine go_fx (fun (r6 : Int32 → fh_S → Option (Int32 × fh_S)) => ∀ (x4 : Int32) (σ5 : fh_S), fh_Go E M 3 fh_vI 2 [(1, .int a2), (2, .int x4)] [] σ5 (r6 x4 σ5)) ?_ ?_ fh_fu a1 σ3
  · intro x4 σ5
    exact go_none
  · intro r6 hr6 x4 σ5
    refine go_iload_n C 1 rfl rfl dX5_isUnder_2 ?_
    refine go_jn (fun (j8 : fh_S → Option (Int32 × fh_S)) => ∀ (σ7 : fh_S), fh_Go E M 3 fh_vI 19 [(2, .int x4)] [] σ7 (j8 σ7)) ?_ (fun j8 hj8 => ?_)
    · intro σ7
      refine go_iload_n C 0 rfl rfl dX5_isUnder_19 ?_
      refine go_if_lt (tgt := 27) C dX5_isUnder_20 rfl (fun _ => ?_) (fun _ => ?_)
      · refine go_iconst C (0 : Int32) dX5_isUnder_27 rfl ?_
        exact go_zret C Hr dX5_isUnder_28
      · refine go_iconst C (1 : Int32) dX5_isUnder_23 rfl ?_
        refine go_goto C 28 dX5_isUnder_24 rfl ?_
        exact go_zret C Hr dX5_isUnder_28
    refine go_if_lt (tgt := 19) C dX5_isUnder_3 rfl (fun _ => ?_) (fun _ => ?_)
    · refine go_lv [1] (lv' := [(2, .int x4)]) rfl ?_
      exact hj8 σ5
    · refine go_iload_n C 1 rfl rfl dX5_isUnder_6 ?_
      refine go_iload_n C 0 rfl rfl dX5_isUnder_7 ?_
      refine go_icmp_eq (tgt := 19) C dX5_isUnder_8 rfl (fun _ => ?_) (fun _ => ?_)
      · refine go_lv [1] (lv' := [(2, .int x4)]) rfl ?_
        exact hj8 σ5
      · refine go_iload_n C 1 rfl rfl dX5_isUnder_11 ?_
        refine go_callSI C (st := []) [.int x4] (m_X5_above E _ hok x4 σ5) rfl ⟨q_1196, q_1197, q_6, q_1198⟩ pd_X5_above rfl ⟨⟨Nat.le_of_ble_eq_true rfl, Nat.le_of_ble_eq_true rfl⟩, rfl, rfl⟩ (Nat.le_of_ble_eq_true rfl) dX5_isUnder_12 (fun r10 σ9 => ?_)
        refine go_istore_n C [(2, .int r10), (1, .int a2)] rfl rfl (by decide) dX5_isUnder_15 ?_
        refine go_goto C 2 dX5_isUnder_16 rfl ?_
        refine go_lv [1, 0] (lv' := [(1, .int a2), (2, .int r10)]) rfl ?_
        exact hr6 r10 σ9
theorem m_X5_isUnder (E : fh_E) (l : Launch) (hok : fh_ok E) (a1 : Int32) (a2 : Int32) (σ3 : fh_S) : fh_Met E l yX5_isUnder cX5_isUnder 3 ((some FieldType.boolean)) rm_X5_isUnder fh_vI [.int a1, .int a2] σ3 (f_X5_isUnder a1 a2 σ3) := fh_met hok (by decide +kernel) (Nat.le_of_ble_eq_true rfl) (fun M _ C Hr => g_X5_isUnder C Hr a1 a2 σ3)
def f_X5_late (a1 : Int32) (σ2 : fh_S) : Option (Int32 × fh_S) := if a1 ≤ 0 then some (a1, σ2) else some (a1 - ((1 : Int32)), σ2)
abbrev rm_X5_late : Room := { frames := 0, cells := 0, slots := 0, locals := 0 }
theorem pd_X5_late : yX5_late.cls ≠ "java/lang/invoke/MethodHandle" ∧ yX5_late.cls ≠ "java/lang/invoke/VarHandle" ∧ (parseMethodDescriptor yX5_late.desc).map (fun d => d.parameters.length) = some 1 := by decide +kernel
theorem dX5_late_0 : decode cX5_late 0 = .ok (.iload_n 0, 1) := by decide +kernel
theorem dX5_late_1 : decode cX5_late 1 = .ok (.ifCond .le 9, 3) := by decide +kernel
theorem dX5_late_4 : decode cX5_late 4 = .ok (.iload_n 0, 1) := by decide +kernel
theorem dX5_late_5 : decode cX5_late 5 = .ok (.iconst 1, 1) := by decide +kernel
theorem dX5_late_6 : decode cX5_late 6 = .ok (.isub, 1) := by decide +kernel
theorem dX5_late_7 : decode cX5_late 7 = .ok (.goto 4, 3) := by decide +kernel
theorem dX5_late_10 : decode cX5_late 10 = .ok (.iload_n 0, 1) := by decide +kernel
theorem dX5_late_11 : decode cX5_late 11 = .ok (.ireturn, 1) := by decide +kernel
set_option maxHeartbeats 4000000 in
set_option maxRecDepth 100000 in
theorem g_X5_late {E : fh_E} {M : fh_M} (C : fh_Cx E M cX5_late 1 RX5 ((some FieldType.int)) rm_X5_late) (Hr : fh_Rt E M) (a1 : Int32) (σ2 : fh_S) : fh_Go E M 1 fh_vI 0 [(0, .int a1)] [] σ2 (f_X5_late a1 σ2) := by
  have hok := fh_cok C
  refine go_iload_n C 0 rfl rfl dX5_late_0 ?_
  refine go_if_le (tgt := 10) C dX5_late_1 rfl (fun _ => ?_) (fun _ => ?_)
  · refine go_iload_n C 0 rfl rfl dX5_late_10 ?_
    exact go_iret C Hr rfl dX5_late_11
  · refine go_iload_n C 0 rfl rfl dX5_late_4 ?_
    refine go_iconst C (1 : Int32) dX5_late_5 rfl ?_
    refine go_isub C dX5_late_6 ?_
    refine go_goto C 11 dX5_late_7 rfl ?_
    exact go_iret C Hr rfl dX5_late_11
theorem m_X5_late (E : fh_E) (l : Launch) (hok : fh_ok E) (a1 : Int32) (σ2 : fh_S) : fh_Met E l yX5_late cX5_late 1 ((some FieldType.int)) rm_X5_late fh_vI [.int a1] σ2 (f_X5_late a1 σ2) := fh_met hok (by decide +kernel) (Nat.le_of_ble_eq_true rfl) (fun M _ C Hr => g_X5_late C Hr a1 σ2)
def f_X5_plainPace_J129 (r7 : Int32) : Int32 → fh_S → Option (Int32 × fh_S) := fun x17 σ18 => some ((((-2 : Int32)) * r7) + x17, σ18)
def f_X5_plainPace_J101 (r7 : Int32) : Int32 → fh_S → Option (Int32 × fh_S) := fun x23 σ24 => some ((r7 / ((2 : Int32))) + x23, σ24)
def f_X5_plainPace_J100 (j25 : Int32 → fh_S → Option (Int32 × fh_S)) : fh_S → Option (Int32 × fh_S) := fun σ26 => j25 ((0 : Int32)) σ26
def f_X5_plainPace (k1 : Nat) (a2 : Int32) (σ3 : fh_S) : Option (Int32 × fh_S) := fh_ob 5 k1 (fh_cb (f_X5_dialIs k1 a2 ((2 : Int32)) σ3) fun r5 σ4 => fh_cb (f_X5_dialIs k1 r5 ((3 : Int32)) σ4) fun r7 σ6 => if r5 = a2 then some (r7, σ6) else fh_cb (f_X5_dialIs k1 a2 ((0 : Int32)) σ6) fun r9 σ8 => if r9 = (1 : Int32) then fh_cb (f_X5_late r7 σ8) fun r11 σ10 => some (r11, σ10) else if r9 = (2 : Int32) then some (((2 : Int32)) * r7, σ8) else if r9 = (3 : Int32) then some (((-2 : Int32)) * r7, σ8) else if r9 = (4 : Int32) then fh_cb (f_X5_isStopped k1 r5 σ8) fun r16 σ15 => fh_jn (f_X5_plainPace_J129 r7) (fun j19 => if r16 = 0 then j19 ((0 : Int32)) σ15 else j19 ((3 : Int32)) σ15) else if r9 = (5 : Int32) then (fh_gr 5 k1 0).bind fun k21 => (fh_ld σ8 k21 ((0 : Int32))).bind fun v22 => fh_jn (f_X5_plainPace_J101 r7) (fun j25 => fh_jn (f_X5_plainPace_J100 j25) (fun j27 => if (v22 - v22 / ((2 : Int32)) * ((2 : Int32))) = ((1 : Int32)) then if r7 = 0 then j27 σ8 else j25 ((1 : Int32)) σ8 else j27 σ8)) else if r9 = (6 : Int32) then fh_cb (f_X5_late r7 σ8) fun r30 σ29 => fh_cb (f_X5_late r30 σ29) fun r32 σ31 => some (r32, σ31) else some (r7, σ8))
abbrev rm_X5_plainPace : Room := { frames := 3, cells := 0, slots := 0, locals := 64 }
theorem pd_X5_plainPace : yX5_plainPace.cls ≠ "java/lang/invoke/MethodHandle" ∧ yX5_plainPace.cls ≠ "java/lang/invoke/VarHandle" ∧ (parseMethodDescriptor yX5_plainPace.desc).map (fun d => d.parameters.length) = some 1 := by decide +kernel
theorem dX5_plainPace_0 : decode cX5_plainPace 0 = .ok (.aload_n 0, 1) := by decide +kernel
theorem dX5_plainPace_1 : decode cX5_plainPace 1 = .ok (.iload_n 1, 1) := by decide +kernel
theorem dX5_plainPace_2 : decode cX5_plainPace 2 = .ok (.iconst 2, 1) := by decide +kernel
theorem dX5_plainPace_3 : decode cX5_plainPace 3 = .ok (.invokevirtual 81, 3) := by decide +kernel
theorem dX5_plainPace_6 : decode cX5_plainPace 6 = .ok (.istore_n 2, 1) := by decide +kernel
theorem dX5_plainPace_7 : decode cX5_plainPace 7 = .ok (.aload_n 0, 1) := by decide +kernel
theorem dX5_plainPace_8 : decode cX5_plainPace 8 = .ok (.iload_n 2, 1) := by decide +kernel
theorem dX5_plainPace_9 : decode cX5_plainPace 9 = .ok (.iconst 3, 1) := by decide +kernel
theorem dX5_plainPace_10 : decode cX5_plainPace 10 = .ok (.invokevirtual 81, 3) := by decide +kernel
theorem dX5_plainPace_13 : decode cX5_plainPace 13 = .ok (.istore_n 3, 1) := by decide +kernel
theorem dX5_plainPace_14 : decode cX5_plainPace 14 = .ok (.iload_n 2, 1) := by decide +kernel
theorem dX5_plainPace_15 : decode cX5_plainPace 15 = .ok (.iload_n 1, 1) := by decide +kernel
theorem dX5_plainPace_16 : decode cX5_plainPace 16 = .ok (.if_icmp .ne 5, 3) := by decide +kernel
theorem dX5_plainPace_19 : decode cX5_plainPace 19 = .ok (.iload_n 3, 1) := by decide +kernel
theorem dX5_plainPace_20 : decode cX5_plainPace 20 = .ok (.ireturn, 1) := by decide +kernel
theorem dX5_plainPace_21 : decode cX5_plainPace 21 = .ok (.aload_n 0, 1) := by decide +kernel
theorem dX5_plainPace_22 : decode cX5_plainPace 22 = .ok (.iload_n 1, 1) := by decide +kernel
theorem dX5_plainPace_23 : decode cX5_plainPace 23 = .ok (.iconst 0, 1) := by decide +kernel
theorem dX5_plainPace_24 : decode cX5_plainPace 24 = .ok (.invokevirtual 81, 3) := by decide +kernel
theorem dX5_plainPace_27 : decode cX5_plainPace 27 = .ok (.tableswitch 104 1 6 #[37, 76, 80, 85, 50, 42], 37) := by decide +kernel
theorem dX5_plainPace_64 : decode cX5_plainPace 64 = .ok (.iload_n 3, 1) := by decide +kernel
theorem dX5_plainPace_65 : decode cX5_plainPace 65 = .ok (.invokestatic 96, 3) := by decide +kernel
theorem dX5_plainPace_68 : decode cX5_plainPace 68 = .ok (.ireturn, 1) := by decide +kernel
theorem dX5_plainPace_69 : decode cX5_plainPace 69 = .ok (.iload_n 3, 1) := by decide +kernel
theorem dX5_plainPace_70 : decode cX5_plainPace 70 = .ok (.invokestatic 96, 3) := by decide +kernel
theorem dX5_plainPace_73 : decode cX5_plainPace 73 = .ok (.invokestatic 96, 3) := by decide +kernel
theorem dX5_plainPace_76 : decode cX5_plainPace 76 = .ok (.ireturn, 1) := by decide +kernel
theorem dX5_plainPace_77 : decode cX5_plainPace 77 = .ok (.iload_n 3, 1) := by decide +kernel
theorem dX5_plainPace_78 : decode cX5_plainPace 78 = .ok (.iconst 2, 1) := by decide +kernel
theorem dX5_plainPace_79 : decode cX5_plainPace 79 = .ok (.idiv, 1) := by decide +kernel
theorem dX5_plainPace_80 : decode cX5_plainPace 80 = .ok (.aload_n 0, 1) := by decide +kernel
theorem dX5_plainPace_81 : decode cX5_plainPace 81 = .ok (.getfield 9, 3) := by decide +kernel
theorem dX5_plainPace_84 : decode cX5_plainPace 84 = .ok (.iconst 0, 1) := by decide +kernel
theorem dX5_plainPace_85 : decode cX5_plainPace 85 = .ok (.iaload, 1) := by decide +kernel
theorem dX5_plainPace_86 : decode cX5_plainPace 86 = .ok (.iconst 2, 1) := by decide +kernel
theorem dX5_plainPace_87 : decode cX5_plainPace 87 = .ok (.irem, 1) := by decide +kernel
theorem dX5_plainPace_88 : decode cX5_plainPace 88 = .ok (.iconst 1, 1) := by decide +kernel
theorem dX5_plainPace_89 : decode cX5_plainPace 89 = .ok (.if_icmp .ne 11, 3) := by decide +kernel
theorem dX5_plainPace_92 : decode cX5_plainPace 92 = .ok (.iload_n 3, 1) := by decide +kernel
theorem dX5_plainPace_93 : decode cX5_plainPace 93 = .ok (.ifCond .eq 7, 3) := by decide +kernel
theorem dX5_plainPace_96 : decode cX5_plainPace 96 = .ok (.iconst 1, 1) := by decide +kernel
theorem dX5_plainPace_97 : decode cX5_plainPace 97 = .ok (.goto 4, 3) := by decide +kernel
theorem dX5_plainPace_100 : decode cX5_plainPace 100 = .ok (.iconst 0, 1) := by decide +kernel
theorem dX5_plainPace_101 : decode cX5_plainPace 101 = .ok (.iadd, 1) := by decide +kernel
theorem dX5_plainPace_102 : decode cX5_plainPace 102 = .ok (.ireturn, 1) := by decide +kernel
theorem dX5_plainPace_103 : decode cX5_plainPace 103 = .ok (.iconst 2, 1) := by decide +kernel
theorem dX5_plainPace_104 : decode cX5_plainPace 104 = .ok (.iload_n 3, 1) := by decide +kernel
theorem dX5_plainPace_105 : decode cX5_plainPace 105 = .ok (.imul, 1) := by decide +kernel
theorem dX5_plainPace_106 : decode cX5_plainPace 106 = .ok (.ireturn, 1) := by decide +kernel
theorem dX5_plainPace_107 : decode cX5_plainPace 107 = .ok (.bipush (-2), 2) := by decide +kernel
theorem dX5_plainPace_109 : decode cX5_plainPace 109 = .ok (.iload_n 3, 1) := by decide +kernel
theorem dX5_plainPace_110 : decode cX5_plainPace 110 = .ok (.imul, 1) := by decide +kernel
theorem dX5_plainPace_111 : decode cX5_plainPace 111 = .ok (.ireturn, 1) := by decide +kernel
theorem dX5_plainPace_112 : decode cX5_plainPace 112 = .ok (.bipush (-2), 2) := by decide +kernel
theorem dX5_plainPace_114 : decode cX5_plainPace 114 = .ok (.iload_n 3, 1) := by decide +kernel
theorem dX5_plainPace_115 : decode cX5_plainPace 115 = .ok (.imul, 1) := by decide +kernel
theorem dX5_plainPace_116 : decode cX5_plainPace 116 = .ok (.aload_n 0, 1) := by decide +kernel
theorem dX5_plainPace_117 : decode cX5_plainPace 117 = .ok (.iload_n 2, 1) := by decide +kernel
theorem dX5_plainPace_118 : decode cX5_plainPace 118 = .ok (.invokevirtual 98, 3) := by decide +kernel
theorem dX5_plainPace_121 : decode cX5_plainPace 121 = .ok (.ifCond .eq 7, 3) := by decide +kernel
theorem dX5_plainPace_124 : decode cX5_plainPace 124 = .ok (.iconst 3, 1) := by decide +kernel
theorem dX5_plainPace_125 : decode cX5_plainPace 125 = .ok (.goto 4, 3) := by decide +kernel
theorem dX5_plainPace_128 : decode cX5_plainPace 128 = .ok (.iconst 0, 1) := by decide +kernel
theorem dX5_plainPace_129 : decode cX5_plainPace 129 = .ok (.iadd, 1) := by decide +kernel
theorem dX5_plainPace_130 : decode cX5_plainPace 130 = .ok (.ireturn, 1) := by decide +kernel
theorem dX5_plainPace_131 : decode cX5_plainPace 131 = .ok (.iload_n 3, 1) := by decide +kernel
theorem dX5_plainPace_132 : decode cX5_plainPace 132 = .ok (.ireturn, 1) := by decide +kernel
set_option maxHeartbeats 4000000 in
set_option maxRecDepth 100000 in
theorem g_X5_plainPace {E : fh_E} {M : fh_M} (C : fh_Cx E M cX5_plainPace 4 RX5 ((some FieldType.int)) rm_X5_plainPace) (Hr : fh_Rt E M) (k1 : Nat) (a2 : Int32) (σ3 : fh_S) : fh_Go E M 4 fh_vI 0 [(0, .ref (fh_ad E k1)), (1, .int a2)] [] σ3 (f_X5_plainPace k1 a2 σ3) := by
  have hok := fh_cok C
  refine go_ob ?_
  refine go_aload_n C 0 rfl rfl dX5_plainPace_0 ?_
  refine go_iload_n C 1 rfl rfl dX5_plainPace_1 ?_
  refine go_iconst C (2 : Int32) dX5_plainPace_2 rfl ?_
  refine go_callVI C (st := []) [.int a2, .int ((2 : Int32))] (m_X5_dialIs E _ hok k1 a2 ((2 : Int32)) σ3) (fun _ h => fh_ob_ok h) rfl rfl ⟨q_849, q_851, qs_24, q_6, q_852⟩ pd_X5_dialIs rfl ⟨⟨Nat.le_of_ble_eq_true rfl, Nat.le_of_ble_eq_true rfl⟩, rfl, rfl⟩ (Nat.le_of_ble_eq_true rfl) dX5_plainPace_3 (fun r5 σ4 => ?_)
  refine go_istore_n C [(2, .int r5), (0, .ref (fh_ad E k1)), (1, .int a2)] rfl rfl (by decide) dX5_plainPace_6 ?_
  refine go_aload_n C 1 rfl rfl dX5_plainPace_7 ?_
  refine go_iload_n C 0 rfl rfl dX5_plainPace_8 ?_
  refine go_iconst C (3 : Int32) dX5_plainPace_9 rfl ?_
  refine go_callVI C (st := []) [.int r5, .int ((3 : Int32))] (m_X5_dialIs E _ hok k1 r5 ((3 : Int32)) σ4) (fun _ h => fh_ob_ok h) rfl rfl ⟨q_849, q_851, qs_24, q_6, q_852⟩ pd_X5_dialIs rfl ⟨⟨Nat.le_of_ble_eq_true rfl, Nat.le_of_ble_eq_true rfl⟩, rfl, rfl⟩ (Nat.le_of_ble_eq_true rfl) dX5_plainPace_10 (fun r7 σ6 => ?_)
  refine go_istore_n C [(3, .int r7), (2, .int r5), (0, .ref (fh_ad E k1)), (1, .int a2)] rfl rfl (by decide) dX5_plainPace_13 ?_
  refine go_iload_n C 1 rfl rfl dX5_plainPace_14 ?_
  refine go_iload_n C 3 rfl rfl dX5_plainPace_15 ?_
  refine go_icmp_ne (tgt := 21) C dX5_plainPace_16 rfl (fun _ => ?_) (fun _ => ?_)
  · refine go_aload_n C 2 rfl rfl dX5_plainPace_21 ?_
    refine go_iload_n C 3 rfl rfl dX5_plainPace_22 ?_
    refine go_iconst C (0 : Int32) dX5_plainPace_23 rfl ?_
    refine go_callVI C (st := []) [.int a2, .int ((0 : Int32))] (m_X5_dialIs E _ hok k1 a2 ((0 : Int32)) σ6) (fun _ h => fh_ob_ok h) rfl rfl ⟨q_849, q_851, qs_24, q_6, q_852⟩ pd_X5_dialIs rfl ⟨⟨Nat.le_of_ble_eq_true rfl, Nat.le_of_ble_eq_true rfl⟩, rfl, rfl⟩ (Nat.le_of_ble_eq_true rfl) dX5_plainPace_24 (fun r9 σ8 => ?_)
    refine go_sw C (1 : Int32) 64 dX5_plainPace_27 (by decide) (by decide) rfl rfl ?_ (fun hn12 => ?_)
    · refine go_iload_n C 0 rfl rfl dX5_plainPace_64 ?_
      refine go_callSI C (st := []) [.int r7] (m_X5_late E _ hok r7 σ8) rfl ⟨q_853, q_854, q_6, q_855⟩ pd_X5_late rfl ⟨⟨Nat.le_of_ble_eq_true rfl, Nat.le_of_ble_eq_true rfl⟩, rfl, rfl⟩ (Nat.le_of_ble_eq_true rfl) dX5_plainPace_65 (fun r11 σ10 => ?_)
      exact go_iret C Hr rfl dX5_plainPace_68
    refine go_sw C (2 : Int32) 103 dX5_plainPace_27 (by decide) (by decide) rfl rfl ?_ (fun hn13 => ?_)
    · refine go_iconst C (2 : Int32) dX5_plainPace_103 rfl ?_
      refine go_iload_n C 0 rfl rfl dX5_plainPace_104 ?_
      refine go_imul C dX5_plainPace_105 ?_
      exact go_iret C Hr rfl dX5_plainPace_106
    refine go_sw C (3 : Int32) 107 dX5_plainPace_27 (by decide) (by decide) rfl rfl ?_ (fun hn14 => ?_)
    · refine go_bipush C (-2 : Int32) dX5_plainPace_107 rfl ?_
      refine go_iload_n C 0 rfl rfl dX5_plainPace_109 ?_
      refine go_imul C dX5_plainPace_110 ?_
      exact go_iret C Hr rfl dX5_plainPace_111
    refine go_sw C (4 : Int32) 112 dX5_plainPace_27 (by decide) (by decide) rfl rfl ?_ (fun hn20 => ?_)
    · refine go_bipush C (-2 : Int32) dX5_plainPace_112 rfl ?_
      refine go_iload_n C 0 rfl rfl dX5_plainPace_114 ?_
      refine go_imul C dX5_plainPace_115 ?_
      refine go_aload_n C 2 rfl rfl dX5_plainPace_116 ?_
      refine go_iload_n C 1 rfl rfl dX5_plainPace_117 ?_
      refine go_callVI C (st := [.int (((-2 : Int32)) * r7)]) [.int r5] (m_X5_isStopped E _ hok k1 r5 σ8) (fun _ h => fh_ob_ok h) rfl rfl ⟨q_856, q_858, qs_25, q_6, q_859⟩ pd_X5_isStopped rfl ⟨⟨Nat.le_of_ble_eq_true rfl, Nat.le_of_ble_eq_true rfl⟩, rfl, rfl⟩ (Nat.le_of_ble_eq_true rfl) dX5_plainPace_118 (fun r16 σ15 => ?_)
      refine go_jn (fun (j19 : Int32 → fh_S → Option (Int32 × fh_S)) => ∀ (x17 : Int32) (σ18 : fh_S), fh_Go E M 4 fh_vI 129 [] [.int x17, .int (((-2 : Int32)) * r7)] σ18 (j19 x17 σ18)) ?_ (fun j19 hj19 => ?_)
      · intro x17 σ18
        refine go_iadd C dX5_plainPace_129 ?_
        exact go_iret C Hr rfl dX5_plainPace_130
      refine go_if_eq (tgt := 128) C dX5_plainPace_121 rfl (fun _ => ?_) (fun _ => ?_)
      · refine go_iconst C (0 : Int32) dX5_plainPace_128 rfl ?_
        refine go_lv [] (lv' := []) rfl ?_
        exact hj19 ((0 : Int32)) σ15
      · refine go_iconst C (3 : Int32) dX5_plainPace_124 rfl ?_
        refine go_goto C 129 dX5_plainPace_125 rfl ?_
        refine go_lv [] (lv' := []) rfl ?_
        exact hj19 ((3 : Int32)) σ15
    refine go_sw C (5 : Int32) 77 dX5_plainPace_27 (by decide) (by decide) rfl rfl ?_ (fun hn28 => ?_)
    · refine go_iload_n C 0 rfl rfl dX5_plainPace_77 ?_
      refine go_iconst C (2 : Int32) dX5_plainPace_78 rfl ?_
      refine go_idiv C dX5_plainPace_79 (by decide) ?_
      refine go_aload_n C 2 rfl rfl dX5_plainPace_80 ?_
      refine go_gr (ci := 5) (j := 0) C fh_in5 rfl (by decide) rfl q_746 dX5_plainPace_81 (fun k21 => ?_)
      refine go_iconst C (0 : Int32) dX5_plainPace_84 rfl ?_
      refine go_iald C dX5_plainPace_85 (fun v22 => ?_)
      refine go_iconst C (2 : Int32) dX5_plainPace_86 rfl ?_
      refine go_irem C dX5_plainPace_87 (by decide) ?_
      refine go_iconst C (1 : Int32) dX5_plainPace_88 rfl ?_
      refine go_jn (fun (j25 : Int32 → fh_S → Option (Int32 × fh_S)) => ∀ (x23 : Int32) (σ24 : fh_S), fh_Go E M 4 fh_vI 101 [] [.int x23, .int (r7 / ((2 : Int32)))] σ24 (j25 x23 σ24)) ?_ (fun j25 hj25 => ?_)
      · intro x23 σ24
        refine go_iadd C dX5_plainPace_101 ?_
        exact go_iret C Hr rfl dX5_plainPace_102
      refine go_jn (fun (j27 : fh_S → Option (Int32 × fh_S)) => ∀ (σ26 : fh_S), fh_Go E M 4 fh_vI 100 [] [.int (r7 / ((2 : Int32)))] σ26 (j27 σ26)) ?_ (fun j27 hj27 => ?_)
      · intro σ26
        refine go_iconst C (0 : Int32) dX5_plainPace_100 rfl ?_
        exact hj25 ((0 : Int32)) σ26
      refine go_icmp_ne (tgt := 100) C dX5_plainPace_89 rfl (fun _ => ?_) (fun _ => ?_)
      · refine go_lv [] (lv' := []) rfl ?_
        exact hj27 σ8
      · refine go_iload_n C 0 rfl rfl dX5_plainPace_92 ?_
        refine go_if_eq (tgt := 100) C dX5_plainPace_93 rfl (fun _ => ?_) (fun _ => ?_)
        · refine go_lv [] (lv' := []) rfl ?_
          exact hj27 σ8
        · refine go_iconst C (1 : Int32) dX5_plainPace_96 rfl ?_
          refine go_goto C 101 dX5_plainPace_97 rfl ?_
          refine go_lv [] (lv' := []) rfl ?_
          exact hj25 ((1 : Int32)) σ8
    refine go_sw C (6 : Int32) 69 dX5_plainPace_27 (by decide) (by decide) rfl rfl ?_ (fun hn33 => ?_)
    · refine go_iload_n C 0 rfl rfl dX5_plainPace_69 ?_
      refine go_callSI C (st := []) [.int r7] (m_X5_late E _ hok r7 σ8) rfl ⟨q_853, q_854, q_6, q_855⟩ pd_X5_late rfl ⟨⟨Nat.le_of_ble_eq_true rfl, Nat.le_of_ble_eq_true rfl⟩, rfl, rfl⟩ (Nat.le_of_ble_eq_true rfl) dX5_plainPace_70 (fun r30 σ29 => ?_)
      refine go_callSI C (st := []) [.int r30] (m_X5_late E _ hok r30 σ29) rfl ⟨q_853, q_854, q_6, q_855⟩ pd_X5_late rfl ⟨⟨Nat.le_of_ble_eq_true rfl, Nat.le_of_ble_eq_true rfl⟩, rfl, rfl⟩ (Nat.le_of_ble_eq_true rfl) dX5_plainPace_73 (fun r32 σ31 => ?_)
      exact go_iret C Hr rfl dX5_plainPace_76
    refine go_swd C 131 dX5_plainPace_27 (by have hh0 := fh_ne (z := 1) hn12 (by decide); have hh1 := fh_ne (z := 2) hn13 (by decide); have hh2 := fh_ne (z := 3) hn14 (by decide); have hh3 := fh_ne (z := 4) hn20 (by decide); have hh4 := fh_ne (z := 5) hn28 (by decide); have hh5 := fh_ne (z := 6) hn33 (by decide); omega) rfl ?_
    refine go_iload_n C 0 rfl rfl dX5_plainPace_131 ?_
    exact go_iret C Hr rfl dX5_plainPace_132
  · refine go_iload_n C 0 rfl rfl dX5_plainPace_19 ?_
    exact go_iret C Hr rfl dX5_plainPace_20
theorem m_X5_plainPace (E : fh_E) (l : Launch) (hok : fh_ok E) (k1 : Nat) (a2 : Int32) (σ3 : fh_S) : fh_Met E l yX5_plainPace cX5_plainPace 4 ((some FieldType.int)) rm_X5_plainPace fh_vI [.ref (fh_ad E k1), .int a2] σ3 (f_X5_plainPace k1 a2 σ3) := fh_met hok (by decide +kernel) (Nat.le_of_ble_eq_true rfl) (fun M _ C Hr => g_X5_plainPace C Hr k1 a2 σ3)
