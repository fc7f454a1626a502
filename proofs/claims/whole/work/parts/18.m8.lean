def f_X5_isToldSo (k1 : Nat) (a2 : Int32) (σ3 : fh_S) : Option (Int32 × fh_S) := fh_ob 5 k1 ((fh_gr 5 k1 14).bind fun k4 => (fh_ld σ3 k4 (a2 + ((1 : Int32)))).bind fun v5 => (fh_gr 5 k1 14).bind fun k6 => (fh_ld σ3 k6 (a2 + ((2 : Int32)))).bind fun v7 => (fh_gr 5 k1 14).bind fun k8 => (fh_ld σ3 k8 a2).bind fun v9 => if v9 = ((10 : Int32)) then fh_cb (f_X5_at v5 ((2 : Int32)) σ3) fun r21 σ20 => fh_cb (f_X5_become k1 r21 v7 σ20) fun r23 σ22 => some (r23, σ22) else (fh_gr 5 k1 14).bind fun k10 => (fh_ld σ3 k10 a2).bind fun v11 => (fh_gr 5 k1 14).bind fun k12 => (fh_ld σ3 k12 (a2 + ((3 : Int32)))).bind fun v13 => (fh_gr 5 k1 14).bind fun k14 => (fh_ld σ3 k14 (a2 + ((4 : Int32)))).bind fun v15 => (fh_gr 5 k1 14).bind fun k16 => (fh_ld σ3 k16 (a2 + ((5 : Int32)))).bind fun v17 => fh_cb (f_X5_comes k1 v11 v5 v7 v13 v15 v17 σ3) fun r19 σ18 => some (r19, σ18))
abbrev rm_X5_isToldSo : Room := { frames := 2, cells := 0, slots := 0, locals := 48 }
theorem pd_X5_isToldSo : yX5_isToldSo.cls ≠ "java/lang/invoke/MethodHandle" ∧ yX5_isToldSo.cls ≠ "java/lang/invoke/VarHandle" ∧ (parseMethodDescriptor yX5_isToldSo.desc).map (fun d => d.parameters.length) = some 1 := by decide +kernel
theorem dX5_isToldSo_0 : decode cX5_isToldSo 0 = .ok (.aload_n 0, 1) := by decide +kernel
theorem dX5_isToldSo_1 : decode cX5_isToldSo 1 = .ok (.getfield 48, 3) := by decide +kernel
theorem dX5_isToldSo_4 : decode cX5_isToldSo 4 = .ok (.iload_n 1, 1) := by decide +kernel
theorem dX5_isToldSo_5 : decode cX5_isToldSo 5 = .ok (.iconst 1, 1) := by decide +kernel
theorem dX5_isToldSo_6 : decode cX5_isToldSo 6 = .ok (.iadd, 1) := by decide +kernel
theorem dX5_isToldSo_7 : decode cX5_isToldSo 7 = .ok (.iaload, 1) := by decide +kernel
theorem dX5_isToldSo_8 : decode cX5_isToldSo 8 = .ok (.istore_n 2, 1) := by decide +kernel
theorem dX5_isToldSo_9 : decode cX5_isToldSo 9 = .ok (.aload_n 0, 1) := by decide +kernel
theorem dX5_isToldSo_10 : decode cX5_isToldSo 10 = .ok (.getfield 48, 3) := by decide +kernel
theorem dX5_isToldSo_13 : decode cX5_isToldSo 13 = .ok (.iload_n 1, 1) := by decide +kernel
theorem dX5_isToldSo_14 : decode cX5_isToldSo 14 = .ok (.iconst 2, 1) := by decide +kernel
theorem dX5_isToldSo_15 : decode cX5_isToldSo 15 = .ok (.iadd, 1) := by decide +kernel
theorem dX5_isToldSo_16 : decode cX5_isToldSo 16 = .ok (.iaload, 1) := by decide +kernel
theorem dX5_isToldSo_17 : decode cX5_isToldSo 17 = .ok (.istore_n 3, 1) := by decide +kernel
theorem dX5_isToldSo_18 : decode cX5_isToldSo 18 = .ok (.aload_n 0, 1) := by decide +kernel
theorem dX5_isToldSo_19 : decode cX5_isToldSo 19 = .ok (.getfield 48, 3) := by decide +kernel
theorem dX5_isToldSo_22 : decode cX5_isToldSo 22 = .ok (.iload_n 1, 1) := by decide +kernel
theorem dX5_isToldSo_23 : decode cX5_isToldSo 23 = .ok (.iaload, 1) := by decide +kernel
theorem dX5_isToldSo_24 : decode cX5_isToldSo 24 = .ok (.bipush 10, 2) := by decide +kernel
theorem dX5_isToldSo_26 : decode cX5_isToldSo 26 = .ok (.if_icmp .ne 16, 3) := by decide +kernel
theorem dX5_isToldSo_29 : decode cX5_isToldSo 29 = .ok (.aload_n 0, 1) := by decide +kernel
theorem dX5_isToldSo_30 : decode cX5_isToldSo 30 = .ok (.iload_n 2, 1) := by decide +kernel
theorem dX5_isToldSo_31 : decode cX5_isToldSo 31 = .ok (.iconst 2, 1) := by decide +kernel
theorem dX5_isToldSo_32 : decode cX5_isToldSo 32 = .ok (.invokestatic 77, 3) := by decide +kernel
theorem dX5_isToldSo_35 : decode cX5_isToldSo 35 = .ok (.iload_n 3, 1) := by decide +kernel
theorem dX5_isToldSo_36 : decode cX5_isToldSo 36 = .ok (.invokevirtual 125, 3) := by decide +kernel
theorem dX5_isToldSo_39 : decode cX5_isToldSo 39 = .ok (.goto 39, 3) := by decide +kernel
theorem dX5_isToldSo_42 : decode cX5_isToldSo 42 = .ok (.aload_n 0, 1) := by decide +kernel
theorem dX5_isToldSo_43 : decode cX5_isToldSo 43 = .ok (.aload_n 0, 1) := by decide +kernel
theorem dX5_isToldSo_44 : decode cX5_isToldSo 44 = .ok (.getfield 48, 3) := by decide +kernel
theorem dX5_isToldSo_47 : decode cX5_isToldSo 47 = .ok (.iload_n 1, 1) := by decide +kernel
theorem dX5_isToldSo_48 : decode cX5_isToldSo 48 = .ok (.iaload, 1) := by decide +kernel
theorem dX5_isToldSo_49 : decode cX5_isToldSo 49 = .ok (.iload_n 2, 1) := by decide +kernel
theorem dX5_isToldSo_50 : decode cX5_isToldSo 50 = .ok (.iload_n 3, 1) := by decide +kernel
theorem dX5_isToldSo_51 : decode cX5_isToldSo 51 = .ok (.aload_n 0, 1) := by decide +kernel
theorem dX5_isToldSo_52 : decode cX5_isToldSo 52 = .ok (.getfield 48, 3) := by decide +kernel
theorem dX5_isToldSo_55 : decode cX5_isToldSo 55 = .ok (.iload_n 1, 1) := by decide +kernel
theorem dX5_isToldSo_56 : decode cX5_isToldSo 56 = .ok (.iconst 3, 1) := by decide +kernel
theorem dX5_isToldSo_57 : decode cX5_isToldSo 57 = .ok (.iadd, 1) := by decide +kernel
theorem dX5_isToldSo_58 : decode cX5_isToldSo 58 = .ok (.iaload, 1) := by decide +kernel
theorem dX5_isToldSo_59 : decode cX5_isToldSo 59 = .ok (.aload_n 0, 1) := by decide +kernel
theorem dX5_isToldSo_60 : decode cX5_isToldSo 60 = .ok (.getfield 48, 3) := by decide +kernel
theorem dX5_isToldSo_63 : decode cX5_isToldSo 63 = .ok (.iload_n 1, 1) := by decide +kernel
theorem dX5_isToldSo_64 : decode cX5_isToldSo 64 = .ok (.iconst 4, 1) := by decide +kernel
theorem dX5_isToldSo_65 : decode cX5_isToldSo 65 = .ok (.iadd, 1) := by decide +kernel
theorem dX5_isToldSo_66 : decode cX5_isToldSo 66 = .ok (.iaload, 1) := by decide +kernel
theorem dX5_isToldSo_67 : decode cX5_isToldSo 67 = .ok (.aload_n 0, 1) := by decide +kernel
theorem dX5_isToldSo_68 : decode cX5_isToldSo 68 = .ok (.getfield 48, 3) := by decide +kernel
theorem dX5_isToldSo_71 : decode cX5_isToldSo 71 = .ok (.iload_n 1, 1) := by decide +kernel
theorem dX5_isToldSo_72 : decode cX5_isToldSo 72 = .ok (.iconst 5, 1) := by decide +kernel
theorem dX5_isToldSo_73 : decode cX5_isToldSo 73 = .ok (.iadd, 1) := by decide +kernel
theorem dX5_isToldSo_74 : decode cX5_isToldSo 74 = .ok (.iaload, 1) := by decide +kernel
theorem dX5_isToldSo_75 : decode cX5_isToldSo 75 = .ok (.invokevirtual 89, 3) := by decide +kernel
theorem dX5_isToldSo_78 : decode cX5_isToldSo 78 = .ok (.ireturn, 1) := by decide +kernel
set_option maxHeartbeats 4000000 in
set_option maxRecDepth 100000 in
theorem g_X5_isToldSo {E : fh_E} {M : fh_M} (C : fh_Cx E M cX5_isToldSo 4 RX5 ((some FieldType.int)) rm_X5_isToldSo) (Hr : fh_Rt E M) (k1 : Nat) (a2 : Int32) (σ3 : fh_S) : fh_Go E M 4 fh_vI 0 [(0, .ref (fh_ad E k1)), (1, .int a2)] [] σ3 (f_X5_isToldSo k1 a2 σ3) := by
  have hok := fh_cok C
  refine go_ob ?_
  refine go_aload_n C 0 rfl rfl dX5_isToldSo_0 ?_
  refine go_gr (ci := 5) (j := 14) C fh_in5 rfl (by decide) rfl q_760 dX5_isToldSo_1 (fun k4 => ?_)
  refine go_iload_n C 1 rfl rfl dX5_isToldSo_4 ?_
  refine go_iconst C (1 : Int32) dX5_isToldSo_5 rfl ?_
  refine go_iadd C dX5_isToldSo_6 ?_
  refine go_iald C dX5_isToldSo_7 (fun v5 => ?_)
  refine go_istore_n C [(2, .int v5), (0, .ref (fh_ad E k1)), (1, .int a2)] rfl rfl (by decide) dX5_isToldSo_8 ?_
  refine go_aload_n C 1 rfl rfl dX5_isToldSo_9 ?_
  refine go_gr (ci := 5) (j := 14) C fh_in5 rfl (by decide) rfl q_760 dX5_isToldSo_10 (fun k6 => ?_)
  refine go_iload_n C 2 rfl rfl dX5_isToldSo_13 ?_
  refine go_iconst C (2 : Int32) dX5_isToldSo_14 rfl ?_
  refine go_iadd C dX5_isToldSo_15 ?_
  refine go_iald C dX5_isToldSo_16 (fun v7 => ?_)
  refine go_istore_n C [(3, .int v7), (2, .int v5), (0, .ref (fh_ad E k1)), (1, .int a2)] rfl rfl (by decide) dX5_isToldSo_17 ?_
  refine go_aload_n C 2 rfl rfl dX5_isToldSo_18 ?_
  refine go_gr (ci := 5) (j := 14) C fh_in5 rfl (by decide) rfl q_760 dX5_isToldSo_19 (fun k8 => ?_)
  refine go_iload_n C 3 rfl rfl dX5_isToldSo_22 ?_
  refine go_iald C dX5_isToldSo_23 (fun v9 => ?_)
  refine go_bipush C (10 : Int32) dX5_isToldSo_24 rfl ?_
  refine go_icmp_ne (tgt := 42) C dX5_isToldSo_26 rfl (fun _ => ?_) (fun _ => ?_)
  · refine go_aload_n C 2 rfl rfl dX5_isToldSo_42 ?_
    refine go_aload_n C 2 rfl rfl dX5_isToldSo_43 ?_
    refine go_gr (ci := 5) (j := 14) C fh_in5 rfl (by decide) rfl q_760 dX5_isToldSo_44 (fun k10 => ?_)
    refine go_iload_n C 3 rfl rfl dX5_isToldSo_47 ?_
    refine go_iald C dX5_isToldSo_48 (fun v11 => ?_)
    refine go_iload_n C 1 rfl rfl dX5_isToldSo_49 ?_
    refine go_iload_n C 0 rfl rfl dX5_isToldSo_50 ?_
    refine go_aload_n C 2 rfl rfl dX5_isToldSo_51 ?_
    refine go_gr (ci := 5) (j := 14) C fh_in5 rfl (by decide) rfl q_760 dX5_isToldSo_52 (fun k12 => ?_)
    refine go_iload_n C 3 rfl rfl dX5_isToldSo_55 ?_
    refine go_iconst C (3 : Int32) dX5_isToldSo_56 rfl ?_
    refine go_iadd C dX5_isToldSo_57 ?_
    refine go_iald C dX5_isToldSo_58 (fun v13 => ?_)
    refine go_aload_n C 2 rfl rfl dX5_isToldSo_59 ?_
    refine go_gr (ci := 5) (j := 14) C fh_in5 rfl (by decide) rfl q_760 dX5_isToldSo_60 (fun k14 => ?_)
    refine go_iload_n C 3 rfl rfl dX5_isToldSo_63 ?_
    refine go_iconst C (4 : Int32) dX5_isToldSo_64 rfl ?_
    refine go_iadd C dX5_isToldSo_65 ?_
    refine go_iald C dX5_isToldSo_66 (fun v15 => ?_)
    refine go_aload_n C 2 rfl rfl dX5_isToldSo_67 ?_
    refine go_gr (ci := 5) (j := 14) C fh_in5 rfl (by decide) rfl q_760 dX5_isToldSo_68 (fun k16 => ?_)
    refine go_iload_n C 3 rfl rfl dX5_isToldSo_71 ?_
    refine go_iconst C (5 : Int32) dX5_isToldSo_72 rfl ?_
    refine go_iadd C dX5_isToldSo_73 ?_
    refine go_iald C dX5_isToldSo_74 (fun v17 => ?_)
    refine go_callVI C (st := []) [.int v11, .int v5, .int v7, .int v13, .int v15, .int v17] (m_X5_comes E _ hok k1 v11 v5 v7 v13 v15 v17 σ3) (fun _ h => fh_ob_ok h) rfl rfl ⟨q_826, q_828, qs_20, q_6, q_829⟩ pd_X5_comes rfl ⟨⟨Nat.le_of_ble_eq_true rfl, Nat.le_of_ble_eq_true rfl⟩, rfl, rfl⟩ (Nat.le_of_ble_eq_true rfl) dX5_isToldSo_75 (fun r19 σ18 => ?_)
    exact go_iret C Hr rfl dX5_isToldSo_78
  · refine go_aload_n C 2 rfl rfl dX5_isToldSo_29 ?_
    refine go_iload_n C 1 rfl rfl dX5_isToldSo_30 ?_
    refine go_iconst C (2 : Int32) dX5_isToldSo_31 rfl ?_
    refine go_callSI C (st := [.ref (fh_ad E k1)]) [.int v5, .int ((2 : Int32))] (m_X5_at E _ hok v5 ((2 : Int32)) σ3) rfl ⟨q_830, q_831, q_6, q_832⟩ pd_X5_at rfl ⟨⟨Nat.le_of_ble_eq_true rfl, Nat.le_of_ble_eq_true rfl⟩, rfl, rfl⟩ (Nat.le_of_ble_eq_true rfl) dX5_isToldSo_32 (fun r21 σ20 => ?_)
    refine go_iload_n C 0 rfl rfl dX5_isToldSo_35 ?_
    refine go_callVI C (st := []) [.int r21, .int v7] (m_X5_become E _ hok k1 r21 v7 σ20) (fun _ h => fh_ob_ok h) rfl rfl ⟨q_873, q_875, qs_27, q_6, q_876⟩ pd_X5_become rfl ⟨⟨Nat.le_of_ble_eq_true rfl, Nat.le_of_ble_eq_true rfl⟩, rfl, rfl⟩ (Nat.le_of_ble_eq_true rfl) dX5_isToldSo_36 (fun r23 σ22 => ?_)
    refine go_goto C 78 dX5_isToldSo_39 rfl ?_
    exact go_iret C Hr rfl dX5_isToldSo_78
theorem m_X5_isToldSo (E : fh_E) (l : Launch) (hok : fh_ok E) (k1 : Nat) (a2 : Int32) (σ3 : fh_S) : fh_Met E l yX5_isToldSo cX5_isToldSo 4 ((some FieldType.int)) rm_X5_isToldSo fh_vI [.ref (fh_ad E k1), .int a2] σ3 (f_X5_isToldSo k1 a2 σ3) := fh_met hok (by decide +kernel) (Nat.le_of_ble_eq_true rfl) (fun M _ C Hr => g_X5_isToldSo C Hr k1 a2 σ3)
def f_X5_text_J138 (r24 : Int32 → Int32 → fh_S → Option (Int32 × fh_S)) (x21 : Int32) (x22 : Int32) : Int32 → fh_S → Option (Int32 × fh_S) := fun x28 σ29 => r24 (x21 + x28) (x22 + 1) σ29
def f_X5_text_B113 (k1 : Nat) (r24 : Int32 → Int32 → fh_S → Option (Int32 × fh_S)) : Int32 → Int32 → fh_S → Option (Int32 × fh_S) := fun x21 x22 σ23 => (fh_gi σ23 5 k1 15).bind fun v25 => if v25 ≤ x22 then some (x21, σ23) else fh_cb (f_X5_isToldSo k1 (((6 : Int32)) * x22) σ23) fun r27 σ26 => fh_jn (f_X5_text_J138 r24 x21 x22) (fun j30 => if 0 ≤ r27 then j30 ((1 : Int32)) σ26 else j30 ((0 : Int32)) σ26)
def f_X5_text_J87 (k1 : Nat) : Int32 → fh_S → Option (Int32 × fh_S) := fun x16 σ17 => fh_cb (f_X5_must k1 x16 σ17) fun _ σ18 => (fh_pf σ18 5 k1 7 ((0 : Int32))).bind fun σ19 => (fh_gi σ19 5 k1 12).bind fun v20 => if v20 = 0 then fh_fx (ρ := Int32 → Int32 → fh_S → Option (Int32 × fh_S)) (fun _ _ _ => none) (f_X5_text_B113 k1) fh_fu ((0 : Int32)) ((0 : Int32)) σ19 else (fh_gi σ19 5 k1 8).bind fun v31 => some (((-1 : Int32)) - v31, σ19)
def f_X5_text_J74 (k1 : Nat) : fh_S → Option (Int32 × fh_S) := fun σ14 => (fh_gi σ14 5 k1 10).bind fun v15 => fh_jn (f_X5_text_J87 k1) (fun j32 => if v15 = 0 then j32 ((1 : Int32)) σ14 else j32 ((0 : Int32)) σ14)
def f_X5_text_B33 (k1 : Nat) (r12 : fh_S → Option (Int32 × fh_S)) : fh_S → Option (Int32 × fh_S) := fun σ11 => (fh_gi σ11 5 k1 12).bind fun v13 => fh_jn (f_X5_text_J74 k1) (fun j33 => if v13 = 0 then (fh_gi σ11 5 k1 10).bind fun v34 => if v34 = ((3 : Int32)) then (fh_gr 5 k1 6).bind fun k35 => (fh_gi σ11 5 k1 8).bind fun v36 => (fh_ld σ11 k35 v36).bind fun v37 => if v37 = ((59 : Int32)) then fh_cb (f_X5_must k1 ((1 : Int32)) σ11) fun _ σ38 => fh_cb (f_X5_readItem k1 σ38) fun _ σ39 => r12 σ39 else j33 σ11 else j33 σ11 else j33 σ11)
def f_X5_text (k1 : Nat) (σ2 : fh_S) : Option (Int32 × fh_S) := fh_ob 5 k1 ((fh_pf σ2 5 k1 9 ((0 : Int32))).bind fun σ3 => (fh_pz σ3 5 k1 12 ((0 : Int32))).bind fun σ4 => (fh_pf σ4 5 k1 15 ((0 : Int32))).bind fun σ5 => (fh_gr 5 k1 0).bind fun k6 => (fh_ld σ5 k6 ((1 : Int32))).bind fun v7 => (fh_pf σ5 5 k1 16 v7).bind fun σ8 => fh_cb (f_X5_next k1 σ8) fun _ σ9 => fh_cb (f_X5_readItem k1 σ9) fun _ σ10 => fh_fx (ρ := fh_S → Option (Int32 × fh_S)) (fun _ => none) (f_X5_text_B33 k1) fh_fu σ10)
abbrev rm_X5_text : Room := { frames := 7, cells := 0, slots := 0, locals := 156 }
theorem pd_X5_text : yX5_text.cls ≠ "java/lang/invoke/MethodHandle" ∧ yX5_text.cls ≠ "java/lang/invoke/VarHandle" ∧ (parseMethodDescriptor yX5_text.desc).map (fun d => d.parameters.length) = some 0 := by decide +kernel
theorem dX5_text_0 : decode cX5_text 0 = .ok (.aload_n 0, 1) := by decide +kernel
theorem dX5_text_1 : decode cX5_text 1 = .ok (.iconst 0, 1) := by decide +kernel
theorem dX5_text_2 : decode cX5_text 2 = .ok (.putfield 231, 3) := by decide +kernel
theorem dX5_text_5 : decode cX5_text 5 = .ok (.aload_n 0, 1) := by decide +kernel
theorem dX5_text_6 : decode cX5_text 6 = .ok (.iconst 0, 1) := by decide +kernel
theorem dX5_text_7 : decode cX5_text 7 = .ok (.putfield 253, 3) := by decide +kernel
theorem dX5_text_10 : decode cX5_text 10 = .ok (.aload_n 0, 1) := by decide +kernel
theorem dX5_text_11 : decode cX5_text 11 = .ok (.iconst 0, 1) := by decide +kernel
theorem dX5_text_12 : decode cX5_text 12 = .ok (.putfield 264, 3) := by decide +kernel
theorem dX5_text_15 : decode cX5_text 15 = .ok (.aload_n 0, 1) := by decide +kernel
theorem dX5_text_16 : decode cX5_text 16 = .ok (.aload_n 0, 1) := by decide +kernel
theorem dX5_text_17 : decode cX5_text 17 = .ok (.getfield 9, 3) := by decide +kernel
theorem dX5_text_20 : decode cX5_text 20 = .ok (.iconst 1, 1) := by decide +kernel
theorem dX5_text_21 : decode cX5_text 21 = .ok (.iaload, 1) := by decide +kernel
theorem dX5_text_22 : decode cX5_text 22 = .ok (.putfield 277, 3) := by decide +kernel
theorem dX5_text_25 : decode cX5_text 25 = .ok (.aload_n 0, 1) := by decide +kernel
theorem dX5_text_26 : decode cX5_text 26 = .ok (.invokevirtual 257, 3) := by decide +kernel
theorem dX5_text_29 : decode cX5_text 29 = .ok (.aload_n 0, 1) := by decide +kernel
theorem dX5_text_30 : decode cX5_text 30 = .ok (.invokevirtual 302, 3) := by decide +kernel
theorem dX5_text_33 : decode cX5_text 33 = .ok (.aload_n 0, 1) := by decide +kernel
theorem dX5_text_34 : decode cX5_text 34 = .ok (.getfield 253, 3) := by decide +kernel
theorem dX5_text_37 : decode cX5_text 37 = .ok (.ifCond .ne 37, 3) := by decide +kernel
theorem dX5_text_40 : decode cX5_text 40 = .ok (.aload_n 0, 1) := by decide +kernel
theorem dX5_text_41 : decode cX5_text 41 = .ok (.getfield 243, 3) := by decide +kernel
theorem dX5_text_44 : decode cX5_text 44 = .ok (.iconst 3, 1) := by decide +kernel
theorem dX5_text_45 : decode cX5_text 45 = .ok (.if_icmp .ne 29, 3) := by decide +kernel
theorem dX5_text_48 : decode cX5_text 48 = .ok (.aload_n 0, 1) := by decide +kernel
theorem dX5_text_49 : decode cX5_text 49 = .ok (.getfield 25, 3) := by decide +kernel
theorem dX5_text_52 : decode cX5_text 52 = .ok (.aload_n 0, 1) := by decide +kernel
theorem dX5_text_53 : decode cX5_text 53 = .ok (.getfield 234, 3) := by decide +kernel
theorem dX5_text_56 : decode cX5_text 56 = .ok (.iaload, 1) := by decide +kernel
theorem dX5_text_57 : decode cX5_text 57 = .ok (.bipush 59, 2) := by decide +kernel
theorem dX5_text_59 : decode cX5_text 59 = .ok (.if_icmp .ne 15, 3) := by decide +kernel
theorem dX5_text_62 : decode cX5_text 62 = .ok (.aload_n 0, 1) := by decide +kernel
theorem dX5_text_63 : decode cX5_text 63 = .ok (.iconst 1, 1) := by decide +kernel
theorem dX5_text_64 : decode cX5_text 64 = .ok (.invokevirtual 260, 3) := by decide +kernel
theorem dX5_text_67 : decode cX5_text 67 = .ok (.aload_n 0, 1) := by decide +kernel
theorem dX5_text_68 : decode cX5_text 68 = .ok (.invokevirtual 302, 3) := by decide +kernel
theorem dX5_text_71 : decode cX5_text 71 = .ok (.goto (-38), 3) := by decide +kernel
theorem dX5_text_74 : decode cX5_text 74 = .ok (.aload_n 0, 1) := by decide +kernel
theorem dX5_text_75 : decode cX5_text 75 = .ok (.aload_n 0, 1) := by decide +kernel
theorem dX5_text_76 : decode cX5_text 76 = .ok (.getfield 243, 3) := by decide +kernel
theorem dX5_text_79 : decode cX5_text 79 = .ok (.ifCond .ne 7, 3) := by decide +kernel
theorem dX5_text_82 : decode cX5_text 82 = .ok (.iconst 1, 1) := by decide +kernel
theorem dX5_text_83 : decode cX5_text 83 = .ok (.goto 4, 3) := by decide +kernel
theorem dX5_text_86 : decode cX5_text 86 = .ok (.iconst 0, 1) := by decide +kernel
theorem dX5_text_87 : decode cX5_text 87 = .ok (.invokevirtual 260, 3) := by decide +kernel
theorem dX5_text_90 : decode cX5_text 90 = .ok (.aload_n 0, 1) := by decide +kernel
theorem dX5_text_91 : decode cX5_text 91 = .ok (.iconst 0, 1) := by decide +kernel
theorem dX5_text_92 : decode cX5_text 92 = .ok (.putfield 227, 3) := by decide +kernel
theorem dX5_text_95 : decode cX5_text 95 = .ok (.aload_n 0, 1) := by decide +kernel
theorem dX5_text_96 : decode cX5_text 96 = .ok (.getfield 253, 3) := by decide +kernel
theorem dX5_text_99 : decode cX5_text 99 = .ok (.ifCond .eq 10, 3) := by decide +kernel
theorem dX5_text_102 : decode cX5_text 102 = .ok (.iconst (-1), 1) := by decide +kernel
theorem dX5_text_103 : decode cX5_text 103 = .ok (.aload_n 0, 1) := by decide +kernel
theorem dX5_text_104 : decode cX5_text 104 = .ok (.getfield 234, 3) := by decide +kernel
theorem dX5_text_107 : decode cX5_text 107 = .ok (.isub, 1) := by decide +kernel
theorem dX5_text_108 : decode cX5_text 108 = .ok (.ireturn, 1) := by decide +kernel
theorem dX5_text_109 : decode cX5_text 109 = .ok (.iconst 0, 1) := by decide +kernel
theorem dX5_text_110 : decode cX5_text 110 = .ok (.istore_n 1, 1) := by decide +kernel
theorem dX5_text_111 : decode cX5_text 111 = .ok (.iconst 0, 1) := by decide +kernel
theorem dX5_text_112 : decode cX5_text 112 = .ok (.istore_n 2, 1) := by decide +kernel
theorem dX5_text_113 : decode cX5_text 113 = .ok (.iload_n 2, 1) := by decide +kernel
theorem dX5_text_114 : decode cX5_text 114 = .ok (.aload_n 0, 1) := by decide +kernel
theorem dX5_text_115 : decode cX5_text 115 = .ok (.getfield 264, 3) := by decide +kernel
theorem dX5_text_118 : decode cX5_text 118 = .ok (.if_icmp .ge 28, 3) := by decide +kernel
theorem dX5_text_121 : decode cX5_text 121 = .ok (.iload_n 1, 1) := by decide +kernel
theorem dX5_text_122 : decode cX5_text 122 = .ok (.aload_n 0, 1) := by decide +kernel
theorem dX5_text_123 : decode cX5_text 123 = .ok (.bipush 6, 2) := by decide +kernel
theorem dX5_text_125 : decode cX5_text 125 = .ok (.iload_n 2, 1) := by decide +kernel
theorem dX5_text_126 : decode cX5_text 126 = .ok (.imul, 1) := by decide +kernel
theorem dX5_text_127 : decode cX5_text 127 = .ok (.invokevirtual 305, 3) := by decide +kernel
theorem dX5_text_130 : decode cX5_text 130 = .ok (.ifCond .ge 7, 3) := by decide +kernel
theorem dX5_text_133 : decode cX5_text 133 = .ok (.iconst 0, 1) := by decide +kernel
theorem dX5_text_134 : decode cX5_text 134 = .ok (.goto 4, 3) := by decide +kernel
theorem dX5_text_137 : decode cX5_text 137 = .ok (.iconst 1, 1) := by decide +kernel
theorem dX5_text_138 : decode cX5_text 138 = .ok (.iadd, 1) := by decide +kernel
theorem dX5_text_139 : decode cX5_text 139 = .ok (.istore_n 1, 1) := by decide +kernel
theorem dX5_text_140 : decode cX5_text 140 = .ok (.iinc 2 1, 3) := by decide +kernel
theorem dX5_text_143 : decode cX5_text 143 = .ok (.goto (-30), 3) := by decide +kernel
theorem dX5_text_146 : decode cX5_text 146 = .ok (.iload_n 1, 1) := by decide +kernel
theorem dX5_text_147 : decode cX5_text 147 = .ok (.ireturn, 1) := by decide +kernel
set_option maxHeartbeats 4000000 in
set_option maxRecDepth 100000 in
theorem g_X5_text {E : fh_E} {M : fh_M} (C : fh_Cx E M cX5_text 3 RX5 ((some FieldType.int)) rm_X5_text) (Hr : fh_Rt E M) (k1 : Nat) (σ2 : fh_S) : fh_Go E M 3 fh_vI 0 [(0, .ref (fh_ad E k1))] [] σ2 (f_X5_text k1 σ2) := by
  have hok := fh_cok C
  refine go_ob ?_
  refine go_aload_n C 0 rfl rfl dX5_text_0 ?_
  refine go_iconst C (0 : Int32) dX5_text_1 rfl ?_
  refine go_pf (ci := 5) (j := 9) C tyX5 tyX5_ok nmX5 fh_in5 rfl (by decide) rfl q_755 rfl rfl dX5_text_2 (fun σ3 => ?_)
  refine go_aload_n C 0 rfl rfl dX5_text_5 ?_
  refine go_iconst C (0 : Int32) dX5_text_6 rfl ?_
  refine go_pz (ci := 5) (j := 12) C tyX5 tyX5_ok nmX5 fh_in5 rfl (by decide) rfl q_758 rfl rfl dX5_text_7 (fun σ4 => ?_)
  refine go_aload_n C 0 rfl rfl dX5_text_10 ?_
  refine go_iconst C (0 : Int32) dX5_text_11 rfl ?_
  refine go_pf (ci := 5) (j := 15) C tyX5 tyX5_ok nmX5 fh_in5 rfl (by decide) rfl q_761 rfl rfl dX5_text_12 (fun σ5 => ?_)
  refine go_aload_n C 0 rfl rfl dX5_text_15 ?_
  refine go_aload_n C 0 rfl rfl dX5_text_16 ?_
  refine go_gr (ci := 5) (j := 0) C fh_in5 rfl (by decide) rfl q_746 dX5_text_17 (fun k6 => ?_)
  refine go_iconst C (1 : Int32) dX5_text_20 rfl ?_
  refine go_iald C dX5_text_21 (fun v7 => ?_)
  refine go_pf (ci := 5) (j := 16) C tyX5 tyX5_ok nmX5 fh_in5 rfl (by decide) rfl q_762 rfl rfl dX5_text_22 (fun σ8 => ?_)
  refine go_aload_n C 0 rfl rfl dX5_text_25 ?_
  refine go_callVU C (st := []) [] (m_X5_next E _ hok k1 σ8) (fun _ h => fh_ob_ok h) rfl rfl ⟨q_1130, q_1132, qs_53, q_6, q_1133⟩ pd_X5_next rfl ⟨⟨Nat.le_of_ble_eq_true rfl, Nat.le_of_ble_eq_true rfl⟩, rfl, rfl⟩ (Nat.le_of_ble_eq_true rfl) dX5_text_26 (fun _ σ9 => ?_)
  refine go_aload_n C 0 rfl rfl dX5_text_29 ?_
  refine go_callVU C (st := []) [] (m_X5_readItem E _ hok k1 σ9) (fun _ h => fh_ob_ok h) rfl rfl ⟨q_1138, q_1140, qs_55, q_6, q_1141⟩ pd_X5_readItem rfl ⟨⟨Nat.le_of_ble_eq_true rfl, Nat.le_of_ble_eq_true rfl⟩, rfl, rfl⟩ (Nat.le_of_ble_eq_true rfl) dX5_text_30 (fun _ σ10 => ?_)
  refine go_fx (fun (r12 : fh_S → Option (Int32 × fh_S)) => ∀  (σ11 : fh_S), fh_Go E M 3 fh_vI 33 [(0, .ref (fh_ad E k1))] [] σ11 (r12 σ11)) ?_ ?_ fh_fu σ10
  · intro σ11
    exact go_none
  · intro r12 hr12 σ11
    refine go_aload_n C 0 rfl rfl dX5_text_33 ?_
    refine go_gi (ci := 5) (j := 12) C fh_in5 rfl (by decide) rfl q_758 dX5_text_34 (fun v13 => ?_)
    refine go_jn (fun (j33 : fh_S → Option (Int32 × fh_S)) => ∀ (σ14 : fh_S), fh_Go E M 3 fh_vI 74 [(0, .ref (fh_ad E k1))] [] σ14 (j33 σ14)) ?_ (fun j33 hj33 => ?_)
    · intro σ14
      refine go_aload_n C 0 rfl rfl dX5_text_74 ?_
      refine go_aload_n C 0 rfl rfl dX5_text_75 ?_
      refine go_gi (ci := 5) (j := 10) C fh_in5 rfl (by decide) rfl q_756 dX5_text_76 (fun v15 => ?_)
      refine go_jn (fun (j32 : Int32 → fh_S → Option (Int32 × fh_S)) => ∀ (x16 : Int32) (σ17 : fh_S), fh_Go E M 3 fh_vI 87 [(0, .ref (fh_ad E k1))] [.int x16, .ref (fh_ad E k1)] σ17 (j32 x16 σ17)) ?_ (fun j32 hj32 => ?_)
      · intro x16 σ17
        refine go_callVU C (st := []) [.int x16] (m_X5_must E _ hok k1 x16 σ17) (fun _ h => fh_ob_ok h) rfl rfl ⟨q_1152, q_1154, qs_58, q_6, q_1155⟩ pd_X5_must rfl ⟨⟨Nat.le_of_ble_eq_true rfl, Nat.le_of_ble_eq_true rfl⟩, rfl, rfl⟩ (Nat.le_of_ble_eq_true rfl) dX5_text_87 (fun _ σ18 => ?_)
        refine go_aload_n C 0 rfl rfl dX5_text_90 ?_
        refine go_iconst C (0 : Int32) dX5_text_91 rfl ?_
        refine go_pf (ci := 5) (j := 7) C tyX5 tyX5_ok nmX5 fh_in5 rfl (by decide) rfl q_753 rfl rfl dX5_text_92 (fun σ19 => ?_)
        refine go_aload_n C 0 rfl rfl dX5_text_95 ?_
        refine go_gi (ci := 5) (j := 12) C fh_in5 rfl (by decide) rfl q_758 dX5_text_96 (fun v20 => ?_)
        refine go_if_eq (tgt := 109) C dX5_text_99 rfl (fun _ => ?_) (fun _ => ?_)
        · refine go_iconst C (0 : Int32) dX5_text_109 rfl ?_
          refine go_istore_n C [(1, .int ((0 : Int32))), (0, .ref (fh_ad E k1))] rfl rfl (by decide) dX5_text_110 ?_
          refine go_iconst C (0 : Int32) dX5_text_111 rfl ?_
          refine go_istore_n C [(2, .int ((0 : Int32))), (1, .int ((0 : Int32))), (0, .ref (fh_ad E k1))] rfl rfl (by decide) dX5_text_112 ?_
          refine go_lv [2, 1, 0] (lv' := [(0, .ref (fh_ad E k1)), (1, .int ((0 : Int32))), (2, .int ((0 : Int32)))]) rfl ?_
          refine go_fx (fun (r24 : Int32 → Int32 → fh_S → Option (Int32 × fh_S)) => ∀ (x21 : Int32) (x22 : Int32) (σ23 : fh_S), fh_Go E M 3 fh_vI 113 [(0, .ref (fh_ad E k1)), (1, .int x21), (2, .int x22)] [] σ23 (r24 x21 x22 σ23)) ?_ ?_ fh_fu ((0 : Int32)) ((0 : Int32)) σ19
          · intro x21 x22 σ23
            exact go_none
          · intro r24 hr24 x21 x22 σ23
            refine go_iload_n C 2 rfl rfl dX5_text_113 ?_
            refine go_aload_n C 0 rfl rfl dX5_text_114 ?_
            refine go_gi (ci := 5) (j := 15) C fh_in5 rfl (by decide) rfl q_761 dX5_text_115 (fun v25 => ?_)
            refine go_icmp_ge (tgt := 146) C dX5_text_118 rfl (fun _ => ?_) (fun _ => ?_)
            · refine go_iload_n C 1 rfl rfl dX5_text_146 ?_
              exact go_iret C Hr rfl dX5_text_147
            · refine go_iload_n C 1 rfl rfl dX5_text_121 ?_
              refine go_aload_n C 0 rfl rfl dX5_text_122 ?_
              refine go_bipush C (6 : Int32) dX5_text_123 rfl ?_
              refine go_iload_n C 2 rfl rfl dX5_text_125 ?_
              refine go_imul C dX5_text_126 ?_
              refine go_callVI C (st := [.int x21]) [.int (((6 : Int32)) * x22)] (m_X5_isToldSo E _ hok k1 (((6 : Int32)) * x22) σ23) (fun _ h => fh_ob_ok h) rfl rfl ⟨q_1178, q_1180, qs_63, q_6, q_1181⟩ pd_X5_isToldSo rfl ⟨⟨Nat.le_of_ble_eq_true rfl, Nat.le_of_ble_eq_true rfl⟩, rfl, rfl⟩ (Nat.le_of_ble_eq_true rfl) dX5_text_127 (fun r27 σ26 => ?_)
              refine go_jn (fun (j30 : Int32 → fh_S → Option (Int32 × fh_S)) => ∀ (x28 : Int32) (σ29 : fh_S), fh_Go E M 3 fh_vI 138 [(0, .ref (fh_ad E k1)), (2, .int x22)] [.int x28, .int x21] σ29 (j30 x28 σ29)) ?_ (fun j30 hj30 => ?_)
              · intro x28 σ29
                refine go_iadd C dX5_text_138 ?_
                refine go_istore_n C [(1, .int (x21 + x28)), (0, .ref (fh_ad E k1)), (2, .int x22)] rfl rfl (by decide) dX5_text_139 ?_
                refine go_iinc C (x22 + 1) 2 [(2, .int (x22 + 1)), (1, .int (x21 + x28)), (0, .ref (fh_ad E k1))] rfl rfl rfl (by decide) dX5_text_140 ?_
                refine go_goto C 113 dX5_text_143 rfl ?_
                refine go_lv [2, 1, 0] (lv' := [(0, .ref (fh_ad E k1)), (1, .int (x21 + x28)), (2, .int (x22 + 1))]) rfl ?_
                exact hr24 (x21 + x28) (x22 + 1) σ29
              refine go_if_ge (tgt := 137) C dX5_text_130 rfl (fun _ => ?_) (fun _ => ?_)
              · refine go_iconst C (1 : Int32) dX5_text_137 rfl ?_
                refine go_lv [0, 2] (lv' := [(0, .ref (fh_ad E k1)), (2, .int x22)]) rfl ?_
                exact hj30 ((1 : Int32)) σ26
              · refine go_iconst C (0 : Int32) dX5_text_133 rfl ?_
                refine go_goto C 138 dX5_text_134 rfl ?_
                refine go_lv [0, 2] (lv' := [(0, .ref (fh_ad E k1)), (2, .int x22)]) rfl ?_
                exact hj30 ((0 : Int32)) σ26
        · refine go_iconst C (-1 : Int32) dX5_text_102 rfl ?_
          refine go_aload_n C 0 rfl rfl dX5_text_103 ?_
          refine go_gi (ci := 5) (j := 8) C fh_in5 rfl (by decide) rfl q_754 dX5_text_104 (fun v31 => ?_)
          refine go_isub C dX5_text_107 ?_
          exact go_iret C Hr rfl dX5_text_108
      refine go_if_ne (tgt := 86) C dX5_text_79 rfl (fun _ => ?_) (fun _ => ?_)
      · refine go_iconst C (0 : Int32) dX5_text_86 rfl ?_
        exact hj32 ((0 : Int32)) σ14
      · refine go_iconst C (1 : Int32) dX5_text_82 rfl ?_
        refine go_goto C 87 dX5_text_83 rfl ?_
        exact hj32 ((1 : Int32)) σ14
    refine go_if_ne (tgt := 74) C dX5_text_37 rfl (fun _ => ?_) (fun _ => ?_)
    · exact hj33 σ11
    · refine go_aload_n C 0 rfl rfl dX5_text_40 ?_
      refine go_gi (ci := 5) (j := 10) C fh_in5 rfl (by decide) rfl q_756 dX5_text_41 (fun v34 => ?_)
      refine go_iconst C (3 : Int32) dX5_text_44 rfl ?_
      refine go_icmp_ne (tgt := 74) C dX5_text_45 rfl (fun _ => ?_) (fun _ => ?_)
      · exact hj33 σ11
      · refine go_aload_n C 0 rfl rfl dX5_text_48 ?_
        refine go_gr (ci := 5) (j := 6) C fh_in5 rfl (by decide) rfl q_752 dX5_text_49 (fun k35 => ?_)
        refine go_aload_n C 0 rfl rfl dX5_text_52 ?_
        refine go_gi (ci := 5) (j := 8) C fh_in5 rfl (by decide) rfl q_754 dX5_text_53 (fun v36 => ?_)
        refine go_iald C dX5_text_56 (fun v37 => ?_)
        refine go_bipush C (59 : Int32) dX5_text_57 rfl ?_
        refine go_icmp_ne (tgt := 74) C dX5_text_59 rfl (fun _ => ?_) (fun _ => ?_)
        · exact hj33 σ11
        · refine go_aload_n C 0 rfl rfl dX5_text_62 ?_
          refine go_iconst C (1 : Int32) dX5_text_63 rfl ?_
          refine go_callVU C (st := []) [.int ((1 : Int32))] (m_X5_must E _ hok k1 ((1 : Int32)) σ11) (fun _ h => fh_ob_ok h) rfl rfl ⟨q_1152, q_1154, qs_58, q_6, q_1155⟩ pd_X5_must rfl ⟨⟨Nat.le_of_ble_eq_true rfl, Nat.le_of_ble_eq_true rfl⟩, rfl, rfl⟩ (Nat.le_of_ble_eq_true rfl) dX5_text_64 (fun _ σ38 => ?_)
          refine go_aload_n C 0 rfl rfl dX5_text_67 ?_
          refine go_callVU C (st := []) [] (m_X5_readItem E _ hok k1 σ38) (fun _ h => fh_ob_ok h) rfl rfl ⟨q_1138, q_1140, qs_55, q_6, q_1141⟩ pd_X5_readItem rfl ⟨⟨Nat.le_of_ble_eq_true rfl, Nat.le_of_ble_eq_true rfl⟩, rfl, rfl⟩ (Nat.le_of_ble_eq_true rfl) dX5_text_68 (fun _ σ39 => ?_)
          refine go_goto C 33 dX5_text_71 rfl ?_
          exact hr12 σ39
theorem m_X5_text (E : fh_E) (l : Launch) (hok : fh_ok E) (k1 : Nat) (σ2 : fh_S) : fh_Met E l yX5_text cX5_text 3 ((some FieldType.int)) rm_X5_text fh_vI [.ref (fh_ad E k1)] σ2 (f_X5_text k1 σ2) := fh_met hok (by decide +kernel) (Nat.le_of_ble_eq_true rfl) (fun M _ C Hr => g_X5_text C Hr k1 σ2)
def f_X5_isSpot (a1 : Int32) (σ2 : fh_S) : Option (Int32 × fh_S) := fh_cb (f_X5_within a1 ((0 : Int32)) ((9 : Int32)) σ2) fun r4 σ3 => fh_rz r4 σ3
abbrev rm_X5_isSpot : Room := { frames := 1, cells := 0, slots := 0, locals := 22 }
theorem pd_X5_isSpot : yX5_isSpot.cls ≠ "java/lang/invoke/MethodHandle" ∧ yX5_isSpot.cls ≠ "java/lang/invoke/VarHandle" ∧ (parseMethodDescriptor yX5_isSpot.desc).map (fun d => d.parameters.length) = some 1 := by decide +kernel
theorem dX5_isSpot_0 : decode cX5_isSpot 0 = .ok (.iload_n 0, 1) := by decide +kernel
theorem dX5_isSpot_1 : decode cX5_isSpot 1 = .ok (.iconst 0, 1) := by decide +kernel
theorem dX5_isSpot_2 : decode cX5_isSpot 2 = .ok (.bipush 9, 2) := by decide +kernel
theorem dX5_isSpot_4 : decode cX5_isSpot 4 = .ok (.invokestatic 73, 3) := by decide +kernel
theorem dX5_isSpot_7 : decode cX5_isSpot 7 = .ok (.ireturn, 1) := by decide +kernel
set_option maxHeartbeats 4000000 in
set_option maxRecDepth 100000 in
theorem g_X5_isSpot {E : fh_E} {M : fh_M} (C : fh_Cx E M cX5_isSpot 1 RX5 ((some FieldType.boolean)) rm_X5_isSpot) (Hr : fh_Rt E M) (a1 : Int32) (σ2 : fh_S) : fh_Go E M 1 fh_vI 0 [(0, .int a1)] [] σ2 (f_X5_isSpot a1 σ2) := by
  have hok := fh_cok C
  refine go_iload_n C 0 rfl rfl dX5_isSpot_0 ?_
  refine go_iconst C (0 : Int32) dX5_isSpot_1 rfl ?_
  refine go_bipush C (9 : Int32) dX5_isSpot_2 rfl ?_
  refine go_callSI C (st := []) [.int a1, .int ((0 : Int32)), .int ((9 : Int32))] (m_X5_within E _ hok a1 ((0 : Int32)) ((9 : Int32)) σ2) rfl ⟨q_817, q_818, q_6, q_819⟩ pd_X5_within rfl ⟨⟨Nat.le_of_ble_eq_true rfl, Nat.le_of_ble_eq_true rfl⟩, rfl, rfl⟩ (Nat.le_of_ble_eq_true rfl) dX5_isSpot_4 (fun r4 σ3 => ?_)
  exact go_zret C Hr dX5_isSpot_7
theorem m_X5_isSpot (E : fh_E) (l : Launch) (hok : fh_ok E) (a1 : Int32) (σ2 : fh_S) : fh_Met E l yX5_isSpot cX5_isSpot 1 ((some FieldType.boolean)) rm_X5_isSpot fh_vI [.int a1] σ2 (f_X5_isSpot a1 σ2) := fh_met hok (by decide +kernel) (Nat.le_of_ble_eq_true rfl) (fun M _ C Hr => g_X5_isSpot C Hr a1 σ2)
def f_X5_hold_J20 (k1 : Nat) : fh_S → Option (Int32 × fh_S) := fun σ7 => fh_cb (f_X5_finding k1 ((-1000001 : Int32)) σ7) fun r9 σ8 => some (r9, σ8)
def f_X5_hold_J27 (k1 : Nat) (a2 : Int32) (a3 : Int32) : fh_S → Option (Int32 × fh_S) := fun σ11 => (fh_gr 5 k1 0).bind fun k12 => (fh_st σ11 k12 (((3 : Int32)) + a2) a3).bind fun σ13 => some ((1 : Int32), σ13)
def f_X5_hold (k1 : Nat) (a2 : Int32) (a3 : Int32) (σ4 : fh_S) : Option (Int32 × fh_S) := fh_ob 5 k1 (fh_cb (f_X5_isSpot a2 σ4) fun r6 σ5 => fh_jn (f_X5_hold_J20 k1) (fun j10 => if r6 = 0 then j10 σ5 else fh_jn (f_X5_hold_J27 k1 a2 a3) (fun j14 => if a3 = ((-1 : Int32)) then j14 σ5 else fh_cb (f_X5_isDial k1 a3 σ5) fun r16 σ15 => if r16 = 0 then j10 σ15 else j14 σ15)))
abbrev rm_X5_hold : Room := { frames := 2, cells := 0, slots := 0, locals := 43 }
theorem pd_X5_hold : yX5_hold.cls ≠ "java/lang/invoke/MethodHandle" ∧ yX5_hold.cls ≠ "java/lang/invoke/VarHandle" ∧ (parseMethodDescriptor yX5_hold.desc).map (fun d => d.parameters.length) = some 2 := by decide +kernel
theorem dX5_hold_0 : decode cX5_hold 0 = .ok (.iload_n 1, 1) := by decide +kernel
theorem dX5_hold_1 : decode cX5_hold 1 = .ok (.invokestatic 308, 3) := by decide +kernel
theorem dX5_hold_4 : decode cX5_hold 4 = .ok (.ifCond .eq 16, 3) := by decide +kernel
theorem dX5_hold_7 : decode cX5_hold 7 = .ok (.iload_n 2, 1) := by decide +kernel
theorem dX5_hold_8 : decode cX5_hold 8 = .ok (.iconst (-1), 1) := by decide +kernel
theorem dX5_hold_9 : decode cX5_hold 9 = .ok (.if_icmp .eq 18, 3) := by decide +kernel
theorem dX5_hold_12 : decode cX5_hold 12 = .ok (.aload_n 0, 1) := by decide +kernel
theorem dX5_hold_13 : decode cX5_hold 13 = .ok (.iload_n 2, 1) := by decide +kernel
theorem dX5_hold_14 : decode cX5_hold 14 = .ok (.invokevirtual 112, 3) := by decide +kernel
theorem dX5_hold_17 : decode cX5_hold 17 = .ok (.ifCond .ne 10, 3) := by decide +kernel
theorem dX5_hold_20 : decode cX5_hold 20 = .ok (.aload_n 0, 1) := by decide +kernel
theorem dX5_hold_21 : decode cX5_hold 21 = .ok (.ldc 63, 2) := by decide +kernel
theorem dX5_hold_23 : decode cX5_hold 23 = .ok (.invokevirtual 69, 3) := by decide +kernel
theorem dX5_hold_26 : decode cX5_hold 26 = .ok (.ireturn, 1) := by decide +kernel
theorem dX5_hold_27 : decode cX5_hold 27 = .ok (.aload_n 0, 1) := by decide +kernel
theorem dX5_hold_28 : decode cX5_hold 28 = .ok (.getfield 9, 3) := by decide +kernel
theorem dX5_hold_31 : decode cX5_hold 31 = .ok (.iconst 3, 1) := by decide +kernel
theorem dX5_hold_32 : decode cX5_hold 32 = .ok (.iload_n 1, 1) := by decide +kernel
theorem dX5_hold_33 : decode cX5_hold 33 = .ok (.iadd, 1) := by decide +kernel
theorem dX5_hold_34 : decode cX5_hold 34 = .ok (.iload_n 2, 1) := by decide +kernel
theorem dX5_hold_35 : decode cX5_hold 35 = .ok (.iastore, 1) := by decide +kernel
theorem dX5_hold_36 : decode cX5_hold 36 = .ok (.iconst 1, 1) := by decide +kernel
theorem dX5_hold_37 : decode cX5_hold 37 = .ok (.ireturn, 1) := by decide +kernel
set_option maxHeartbeats 4000000 in
set_option maxRecDepth 100000 in
theorem g_X5_hold {E : fh_E} {M : fh_M} (C : fh_Cx E M cX5_hold 3 RX5 ((some FieldType.int)) rm_X5_hold) (Hr : fh_Rt E M) (k1 : Nat) (a2 : Int32) (a3 : Int32) (σ4 : fh_S) : fh_Go E M 3 fh_vI 0 [(0, .ref (fh_ad E k1)), (1, .int a2), (2, .int a3)] [] σ4 (f_X5_hold k1 a2 a3 σ4) := by
  have hok := fh_cok C
  refine go_ob ?_
  refine go_iload_n C 1 rfl rfl dX5_hold_0 ?_
  refine go_callSI C (st := []) [.int a2] (m_X5_isSpot E _ hok a2 σ4) rfl ⟨q_1186, q_1187, q_6, q_1188⟩ pd_X5_isSpot rfl ⟨⟨Nat.le_of_ble_eq_true rfl, Nat.le_of_ble_eq_true rfl⟩, rfl, rfl⟩ (Nat.le_of_ble_eq_true rfl) dX5_hold_1 (fun r6 σ5 => ?_)
  refine go_jn (fun (j10 : fh_S → Option (Int32 × fh_S)) => ∀ (σ7 : fh_S), fh_Go E M 3 fh_vI 20 [(0, .ref (fh_ad E k1))] [] σ7 (j10 σ7)) ?_ (fun j10 hj10 => ?_)
  · intro σ7
    refine go_aload_n C 0 rfl rfl dX5_hold_20 ?_
    refine go_ldc C q_820 dX5_hold_21 ?_
    refine go_callVI C (st := []) [.int ((-1000001 : Int32))] (m_X5_finding E _ hok k1 ((-1000001 : Int32)) σ7) (fun _ h => fh_ob_ok h) rfl rfl ⟨q_821, q_823, qs_19, q_6, q_824⟩ pd_X5_finding rfl ⟨⟨Nat.le_of_ble_eq_true rfl, Nat.le_of_ble_eq_true rfl⟩, rfl, rfl⟩ (Nat.le_of_ble_eq_true rfl) dX5_hold_23 (fun r9 σ8 => ?_)
    exact go_iret C Hr rfl dX5_hold_26
  refine go_if_eq (tgt := 20) C dX5_hold_4 rfl (fun _ => ?_) (fun _ => ?_)
  · refine go_lv [0] (lv' := [(0, .ref (fh_ad E k1))]) rfl ?_
    exact hj10 σ5
  · refine go_iload_n C 2 rfl rfl dX5_hold_7 ?_
    refine go_iconst C (-1 : Int32) dX5_hold_8 rfl ?_
    refine go_jn (fun (j14 : fh_S → Option (Int32 × fh_S)) => ∀ (σ11 : fh_S), fh_Go E M 3 fh_vI 27 [(0, .ref (fh_ad E k1)), (1, .int a2), (2, .int a3)] [] σ11 (j14 σ11)) ?_ (fun j14 hj14 => ?_)
    · intro σ11
      refine go_aload_n C 0 rfl rfl dX5_hold_27 ?_
      refine go_gr (ci := 5) (j := 0) C fh_in5 rfl (by decide) rfl q_746 dX5_hold_28 (fun k12 => ?_)
      refine go_iconst C (3 : Int32) dX5_hold_31 rfl ?_
      refine go_iload_n C 1 rfl rfl dX5_hold_32 ?_
      refine go_iadd C dX5_hold_33 ?_
      refine go_iload_n C 2 rfl rfl dX5_hold_34 ?_
      refine go_iast C dX5_hold_35 (fun σ13 => ?_)
      refine go_iconst C (1 : Int32) dX5_hold_36 rfl ?_
      exact go_iret C Hr rfl dX5_hold_37
    refine go_icmp_eq (tgt := 27) C dX5_hold_9 rfl (fun _ => ?_) (fun _ => ?_)
    · exact hj14 σ5
    · refine go_aload_n C 0 rfl rfl dX5_hold_12 ?_
      refine go_iload_n C 2 rfl rfl dX5_hold_13 ?_
      refine go_callVI C (st := []) [.int a3] (m_X5_isDial E _ hok k1 a3 σ5) (fun _ h => fh_ob_ok h) rfl rfl ⟨q_837, q_839, qs_21, q_6, q_840⟩ pd_X5_isDial rfl ⟨⟨Nat.le_of_ble_eq_true rfl, Nat.le_of_ble_eq_true rfl⟩, rfl, rfl⟩ (Nat.le_of_ble_eq_true rfl) dX5_hold_14 (fun r16 σ15 => ?_)
      refine go_if_ne (tgt := 27) C dX5_hold_17 rfl (fun _ => ?_) (fun _ => ?_)
      · exact hj14 σ15
      · refine go_lv [0] (lv' := [(0, .ref (fh_ad E k1))]) rfl ?_
        exact hj10 σ15
theorem m_X5_hold (E : fh_E) (l : Launch) (hok : fh_ok E) (k1 : Nat) (a2 : Int32) (a3 : Int32) (σ4 : fh_S) : fh_Met E l yX5_hold cX5_hold 3 ((some FieldType.int)) rm_X5_hold fh_vI [.ref (fh_ad E k1), .int a2, .int a3] σ4 (f_X5_hold k1 a2 a3 σ4) := fh_met hok (by decide +kernel) (Nat.le_of_ble_eq_true rfl) (fun M _ C Hr => g_X5_hold C Hr k1 a2 a3 σ4)
def f_X5_as_J14 (k1 : Nat) : fh_S → Option (Int32 × fh_S) := fun σ7 => fh_cb (f_X5_finding k1 ((-1000001 : Int32)) σ7) fun r9 σ8 => some (r9, σ8)
def f_X5_as (k1 : Nat) (a2 : Int32) (a3 : Int32) (σ4 : fh_S) : Option (Int32 × fh_S) := fh_ob 5 k1 (fh_cb (f_X5_isSpot a2 σ4) fun r6 σ5 => fh_jn (f_X5_as_J14 k1) (fun j10 => if r6 = 0 then j10 σ5 else fh_cb (f_X5_isKind a3 σ5) fun r12 σ11 => if r12 = 0 then j10 σ11 else (fh_gr 5 k1 0).bind fun k13 => (fh_ld σ11 k13 (((3 : Int32)) + a2)).bind fun v14 => if 0 ≤ v14 then fh_cb (f_X5_dialIs k1 v14 ((0 : Int32)) σ11) fun r16 σ15 => fh_cb (f_X5_isUnder r16 a3 σ15) fun r18 σ17 => if r18 = 0 then fh_cb (f_X5_finding k1 ((-1000003 : Int32)) σ17) fun r20 σ19 => some (r20, σ19) else some (v14, σ17) else fh_cb (f_X5_finding k1 ((-1000006 : Int32)) σ11) fun r22 σ21 => some (r22, σ21)))
abbrev rm_X5_as : Room := { frames := 2, cells := 0, slots := 0, locals := 43 }
theorem pd_X5_as : yX5_as.cls ≠ "java/lang/invoke/MethodHandle" ∧ yX5_as.cls ≠ "java/lang/invoke/VarHandle" ∧ (parseMethodDescriptor yX5_as.desc).map (fun d => d.parameters.length) = some 2 := by decide +kernel
theorem dX5_as_0 : decode cX5_as 0 = .ok (.iload_n 1, 1) := by decide +kernel
theorem dX5_as_1 : decode cX5_as 1 = .ok (.invokestatic 308, 3) := by decide +kernel
theorem dX5_as_4 : decode cX5_as 4 = .ok (.ifCond .eq 10, 3) := by decide +kernel
theorem dX5_as_7 : decode cX5_as 7 = .ok (.iload_n 2, 1) := by decide +kernel
theorem dX5_as_8 : decode cX5_as 8 = .ok (.invokestatic 84, 3) := by decide +kernel
theorem dX5_as_11 : decode cX5_as 11 = .ok (.ifCond .ne 10, 3) := by decide +kernel
theorem dX5_as_14 : decode cX5_as 14 = .ok (.aload_n 0, 1) := by decide +kernel
theorem dX5_as_15 : decode cX5_as 15 = .ok (.ldc 63, 2) := by decide +kernel
theorem dX5_as_17 : decode cX5_as 17 = .ok (.invokevirtual 69, 3) := by decide +kernel
theorem dX5_as_20 : decode cX5_as 20 = .ok (.ireturn, 1) := by decide +kernel
theorem dX5_as_21 : decode cX5_as 21 = .ok (.aload_n 0, 1) := by decide +kernel
theorem dX5_as_22 : decode cX5_as 22 = .ok (.getfield 9, 3) := by decide +kernel
theorem dX5_as_25 : decode cX5_as 25 = .ok (.iconst 3, 1) := by decide +kernel
theorem dX5_as_26 : decode cX5_as 26 = .ok (.iload_n 1, 1) := by decide +kernel
theorem dX5_as_27 : decode cX5_as 27 = .ok (.iadd, 1) := by decide +kernel
theorem dX5_as_28 : decode cX5_as 28 = .ok (.iaload, 1) := by decide +kernel
theorem dX5_as_29 : decode cX5_as 29 = .ok (.istore_n 3, 1) := by decide +kernel
theorem dX5_as_30 : decode cX5_as 30 = .ok (.iload_n 3, 1) := by decide +kernel
theorem dX5_as_31 : decode cX5_as 31 = .ok (.ifCond .ge 10, 3) := by decide +kernel
theorem dX5_as_34 : decode cX5_as 34 = .ok (.aload_n 0, 1) := by decide +kernel
theorem dX5_as_35 : decode cX5_as 35 = .ok (.ldc 209, 2) := by decide +kernel
theorem dX5_as_37 : decode cX5_as 37 = .ok (.invokevirtual 69, 3) := by decide +kernel
theorem dX5_as_40 : decode cX5_as 40 = .ok (.ireturn, 1) := by decide +kernel
theorem dX5_as_41 : decode cX5_as 41 = .ok (.aload_n 0, 1) := by decide +kernel
theorem dX5_as_42 : decode cX5_as 42 = .ok (.iload_n 3, 1) := by decide +kernel
theorem dX5_as_43 : decode cX5_as 43 = .ok (.iconst 0, 1) := by decide +kernel
theorem dX5_as_44 : decode cX5_as 44 = .ok (.invokevirtual 81, 3) := by decide +kernel
theorem dX5_as_47 : decode cX5_as 47 = .ok (.iload_n 2, 1) := by decide +kernel
theorem dX5_as_48 : decode cX5_as 48 = .ok (.invokestatic 311, 3) := by decide +kernel
theorem dX5_as_51 : decode cX5_as 51 = .ok (.ifCond .eq 7, 3) := by decide +kernel
theorem dX5_as_54 : decode cX5_as 54 = .ok (.iload_n 3, 1) := by decide +kernel
theorem dX5_as_55 : decode cX5_as 55 = .ok (.goto 10, 3) := by decide +kernel
theorem dX5_as_58 : decode cX5_as 58 = .ok (.aload_n 0, 1) := by decide +kernel
theorem dX5_as_59 : decode cX5_as 59 = .ok (.ldc_w 314, 3) := by decide +kernel
theorem dX5_as_62 : decode cX5_as 62 = .ok (.invokevirtual 69, 3) := by decide +kernel
theorem dX5_as_65 : decode cX5_as 65 = .ok (.ireturn, 1) := by decide +kernel
set_option maxHeartbeats 4000000 in
set_option maxRecDepth 100000 in
theorem g_X5_as {E : fh_E} {M : fh_M} (C : fh_Cx E M cX5_as 4 RX5 ((some FieldType.int)) rm_X5_as) (Hr : fh_Rt E M) (k1 : Nat) (a2 : Int32) (a3 : Int32) (σ4 : fh_S) : fh_Go E M 4 fh_vI 0 [(0, .ref (fh_ad E k1)), (1, .int a2), (2, .int a3)] [] σ4 (f_X5_as k1 a2 a3 σ4) := by
  have hok := fh_cok C
  refine go_ob ?_
  refine go_iload_n C 1 rfl rfl dX5_as_0 ?_
  refine go_callSI C (st := []) [.int a2] (m_X5_isSpot E _ hok a2 σ4) rfl ⟨q_1186, q_1187, q_6, q_1188⟩ pd_X5_isSpot rfl ⟨⟨Nat.le_of_ble_eq_true rfl, Nat.le_of_ble_eq_true rfl⟩, rfl, rfl⟩ (Nat.le_of_ble_eq_true rfl) dX5_as_1 (fun r6 σ5 => ?_)
  refine go_jn (fun (j10 : fh_S → Option (Int32 × fh_S)) => ∀ (σ7 : fh_S), fh_Go E M 4 fh_vI 14 [(0, .ref (fh_ad E k1))] [] σ7 (j10 σ7)) ?_ (fun j10 hj10 => ?_)
  · intro σ7
    refine go_aload_n C 0 rfl rfl dX5_as_14 ?_
    refine go_ldc C q_820 dX5_as_15 ?_
    refine go_callVI C (st := []) [.int ((-1000001 : Int32))] (m_X5_finding E _ hok k1 ((-1000001 : Int32)) σ7) (fun _ h => fh_ob_ok h) rfl rfl ⟨q_821, q_823, qs_19, q_6, q_824⟩ pd_X5_finding rfl ⟨⟨Nat.le_of_ble_eq_true rfl, Nat.le_of_ble_eq_true rfl⟩, rfl, rfl⟩ (Nat.le_of_ble_eq_true rfl) dX5_as_17 (fun r9 σ8 => ?_)
    exact go_iret C Hr rfl dX5_as_20
  refine go_if_eq (tgt := 14) C dX5_as_4 rfl (fun _ => ?_) (fun _ => ?_)
  · refine go_lv [0] (lv' := [(0, .ref (fh_ad E k1))]) rfl ?_
    exact hj10 σ5
  · refine go_iload_n C 2 rfl rfl dX5_as_7 ?_
    refine go_callSI C (st := []) [.int a3] (m_X5_isKind E _ hok a3 σ5) rfl ⟨q_814, q_815, q_6, q_816⟩ pd_X5_isKind rfl ⟨⟨Nat.le_of_ble_eq_true rfl, Nat.le_of_ble_eq_true rfl⟩, rfl, rfl⟩ (Nat.le_of_ble_eq_true rfl) dX5_as_8 (fun r12 σ11 => ?_)
    refine go_if_ne (tgt := 21) C dX5_as_11 rfl (fun _ => ?_) (fun _ => ?_)
    · refine go_aload_n C 0 rfl rfl dX5_as_21 ?_
      refine go_gr (ci := 5) (j := 0) C fh_in5 rfl (by decide) rfl q_746 dX5_as_22 (fun k13 => ?_)
      refine go_iconst C (3 : Int32) dX5_as_25 rfl ?_
      refine go_iload_n C 1 rfl rfl dX5_as_26 ?_
      refine go_iadd C dX5_as_27 ?_
      refine go_iald C dX5_as_28 (fun v14 => ?_)
      refine go_istore_n C [(3, .int v14), (0, .ref (fh_ad E k1)), (1, .int a2), (2, .int a3)] rfl rfl (by decide) dX5_as_29 ?_
      refine go_iload_n C 0 rfl rfl dX5_as_30 ?_
      refine go_if_ge (tgt := 41) C dX5_as_31 rfl (fun _ => ?_) (fun _ => ?_)
      · refine go_aload_n C 1 rfl rfl dX5_as_41 ?_
        refine go_iload_n C 0 rfl rfl dX5_as_42 ?_
        refine go_iconst C (0 : Int32) dX5_as_43 rfl ?_
        refine go_callVI C (st := []) [.int v14, .int ((0 : Int32))] (m_X5_dialIs E _ hok k1 v14 ((0 : Int32)) σ11) (fun _ h => fh_ob_ok h) rfl rfl ⟨q_849, q_851, qs_24, q_6, q_852⟩ pd_X5_dialIs rfl ⟨⟨Nat.le_of_ble_eq_true rfl, Nat.le_of_ble_eq_true rfl⟩, rfl, rfl⟩ (Nat.le_of_ble_eq_true rfl) dX5_as_44 (fun r16 σ15 => ?_)
        refine go_iload_n C 3 rfl rfl dX5_as_47 ?_
        refine go_callSI C (st := []) [.int r16, .int a3] (m_X5_isUnder E _ hok r16 a3 σ15) rfl ⟨q_1193, q_1194, q_6, q_1195⟩ pd_X5_isUnder rfl ⟨⟨Nat.le_of_ble_eq_true rfl, Nat.le_of_ble_eq_true rfl⟩, rfl, rfl⟩ (Nat.le_of_ble_eq_true rfl) dX5_as_48 (fun r18 σ17 => ?_)
        refine go_if_eq (tgt := 58) C dX5_as_51 rfl (fun _ => ?_) (fun _ => ?_)
        · refine go_aload_n C 1 rfl rfl dX5_as_58 ?_
          refine go_ldcw C q_1199 dX5_as_59 ?_
          refine go_callVI C (st := []) [.int ((-1000003 : Int32))] (m_X5_finding E _ hok k1 ((-1000003 : Int32)) σ17) (fun _ h => fh_ob_ok h) rfl rfl ⟨q_821, q_823, qs_19, q_6, q_824⟩ pd_X5_finding rfl ⟨⟨Nat.le_of_ble_eq_true rfl, Nat.le_of_ble_eq_true rfl⟩, rfl, rfl⟩ (Nat.le_of_ble_eq_true rfl) dX5_as_62 (fun r20 σ19 => ?_)
          exact go_iret C Hr rfl dX5_as_65
        · refine go_iload_n C 0 rfl rfl dX5_as_54 ?_
          refine go_goto C 65 dX5_as_55 rfl ?_
          exact go_iret C Hr rfl dX5_as_65
      · refine go_aload_n C 1 rfl rfl dX5_as_34 ?_
        refine go_ldc C q_1068 dX5_as_35 ?_
        refine go_callVI C (st := []) [.int ((-1000006 : Int32))] (m_X5_finding E _ hok k1 ((-1000006 : Int32)) σ11) (fun _ h => fh_ob_ok h) rfl rfl ⟨q_821, q_823, qs_19, q_6, q_824⟩ pd_X5_finding rfl ⟨⟨Nat.le_of_ble_eq_true rfl, Nat.le_of_ble_eq_true rfl⟩, rfl, rfl⟩ (Nat.le_of_ble_eq_true rfl) dX5_as_37 (fun r22 σ21 => ?_)
        exact go_iret C Hr rfl dX5_as_40
    · refine go_lv [0] (lv' := [(0, .ref (fh_ad E k1))]) rfl ?_
      exact hj10 σ11
theorem m_X5_as (E : fh_E) (l : Launch) (hok : fh_ok E) (k1 : Nat) (a2 : Int32) (a3 : Int32) (σ4 : fh_S) : fh_Met E l yX5_as cX5_as 4 ((some FieldType.int)) rm_X5_as fh_vI [.ref (fh_ad E k1), .int a2, .int a3] σ4 (f_X5_as k1 a2 a3 σ4) := fh_met hok (by decide +kernel) (Nat.le_of_ble_eq_true rfl) (fun M _ C Hr => g_X5_as C Hr k1 a2 a3 σ4)
def f_X5_cutTo (a1 : Int32) (a2 : Int32) (σ3 : fh_S) : Option (Int32 × fh_S) := if a2 = ((8 : Int32)) then some (a1.toInt8.toInt32, σ3) else if a2 = ((16 : Int32)) then some (a1.toInt16.toInt32, σ3) else some (a1, σ3)
abbrev rm_X5_cutTo : Room := { frames := 0, cells := 0, slots := 0, locals := 0 }
theorem pd_X5_cutTo : yX5_cutTo.cls ≠ "java/lang/invoke/MethodHandle" ∧ yX5_cutTo.cls ≠ "java/lang/invoke/VarHandle" ∧ (parseMethodDescriptor yX5_cutTo.desc).map (fun d => d.parameters.length) = some 2 := by decide +kernel
theorem dX5_cutTo_0 : decode cX5_cutTo 0 = .ok (.iload_n 1, 1) := by decide +kernel
theorem dX5_cutTo_1 : decode cX5_cutTo 1 = .ok (.bipush 8, 2) := by decide +kernel
theorem dX5_cutTo_3 : decode cX5_cutTo 3 = .ok (.if_icmp .ne 8, 3) := by decide +kernel
theorem dX5_cutTo_6 : decode cX5_cutTo 6 = .ok (.iload_n 0, 1) := by decide +kernel
theorem dX5_cutTo_7 : decode cX5_cutTo 7 = .ok (.i2b, 1) := by decide +kernel
theorem dX5_cutTo_8 : decode cX5_cutTo 8 = .ok (.goto 15, 3) := by decide +kernel
theorem dX5_cutTo_11 : decode cX5_cutTo 11 = .ok (.iload_n 1, 1) := by decide +kernel
theorem dX5_cutTo_12 : decode cX5_cutTo 12 = .ok (.bipush 16, 2) := by decide +kernel
theorem dX5_cutTo_14 : decode cX5_cutTo 14 = .ok (.if_icmp .ne 8, 3) := by decide +kernel
theorem dX5_cutTo_17 : decode cX5_cutTo 17 = .ok (.iload_n 0, 1) := by decide +kernel
theorem dX5_cutTo_18 : decode cX5_cutTo 18 = .ok (.i2s, 1) := by decide +kernel
theorem dX5_cutTo_19 : decode cX5_cutTo 19 = .ok (.goto 4, 3) := by decide +kernel
theorem dX5_cutTo_22 : decode cX5_cutTo 22 = .ok (.iload_n 0, 1) := by decide +kernel
theorem dX5_cutTo_23 : decode cX5_cutTo 23 = .ok (.ireturn, 1) := by decide +kernel
set_option maxHeartbeats 4000000 in
set_option maxRecDepth 100000 in
theorem g_X5_cutTo {E : fh_E} {M : fh_M} (C : fh_Cx E M cX5_cutTo 2 RX5 ((some FieldType.int)) rm_X5_cutTo) (Hr : fh_Rt E M) (a1 : Int32) (a2 : Int32) (σ3 : fh_S) : fh_Go E M 2 fh_vI 0 [(0, .int a1), (1, .int a2)] [] σ3 (f_X5_cutTo a1 a2 σ3) := by
  have hok := fh_cok C
  refine go_iload_n C 1 rfl rfl dX5_cutTo_0 ?_
  refine go_bipush C (8 : Int32) dX5_cutTo_1 rfl ?_
  refine go_icmp_ne (tgt := 11) C dX5_cutTo_3 rfl (fun _ => ?_) (fun _ => ?_)
  · refine go_iload_n C 1 rfl rfl dX5_cutTo_11 ?_
    refine go_bipush C (16 : Int32) dX5_cutTo_12 rfl ?_
    refine go_icmp_ne (tgt := 22) C dX5_cutTo_14 rfl (fun _ => ?_) (fun _ => ?_)
    · refine go_iload_n C 0 rfl rfl dX5_cutTo_22 ?_
      exact go_iret C Hr rfl dX5_cutTo_23
    · refine go_iload_n C 0 rfl rfl dX5_cutTo_17 ?_
      refine go_i2s C dX5_cutTo_18 ?_
      refine go_goto C 23 dX5_cutTo_19 rfl ?_
      exact go_iret C Hr rfl dX5_cutTo_23
  · refine go_iload_n C 0 rfl rfl dX5_cutTo_6 ?_
    refine go_i2b C dX5_cutTo_7 ?_
    refine go_goto C 23 dX5_cutTo_8 rfl ?_
    exact go_iret C Hr rfl dX5_cutTo_23
theorem m_X5_cutTo (E : fh_E) (l : Launch) (hok : fh_ok E) (a1 : Int32) (a2 : Int32) (σ3 : fh_S) : fh_Met E l yX5_cutTo cX5_cutTo 2 ((some FieldType.int)) rm_X5_cutTo fh_vI [.int a1, .int a2] σ3 (f_X5_cutTo a1 a2 σ3) := fh_met hok (by decide +kernel) (Nat.le_of_ble_eq_true rfl) (fun M _ C Hr => g_X5_cutTo C Hr a1 a2 σ3)
def f_X5_sheet_J29 (k1 : Nat) : fh_S → Option (Int32 × fh_S) := fun σ8 => fh_cb (f_X5_finding k1 ((-1000001 : Int32)) σ8) fun r10 σ9 => some (r10, σ9)
def f_X5_sheet_B86 (k1 : Nat) (a2 : Int32) (r21 : Int32 → fh_S → Option (Int32 × fh_S)) : Int32 → fh_S → Option (Int32 × fh_S) := fun x19 σ20 => if ((40 : Int32)) ≤ x19 then (fh_gr 5 k1 18).bind fun k22 => (fh_ld σ20 k22 a2).bind fun v23 => some (v23, σ20) else (fh_gr 5 k1 19).bind fun k24 => (fh_st σ20 k24 ((((40 : Int32)) * a2) + x19) ((0 : Int32))).bind fun σ25 => r21 (x19 + 1) σ25
def f_X5_sheet_J82 (k15 : Nat) (a2 : Int32) (k1 : Nat) : Int32 → fh_S → Option (Int32 × fh_S) := fun x16 σ17 => (fh_st σ17 k15 a2 x16).bind fun σ18 => fh_fx (ρ := Int32 → fh_S → Option (Int32 × fh_S)) (fun _ _ => none) (f_X5_sheet_B86 k1 a2) fh_fu ((0 : Int32)) σ18
def f_X5_sheet_J36 (a4 : Int32) (k1 : Nat) (a2 : Int32) (a3 : Int32) : fh_S → Option (Int32 × fh_S) := fun σ12 => if 0 ≤ a4 then if a4 ≤ ((40 : Int32)) then (fh_gr 5 k1 17).bind fun k13 => (fh_st σ12 k13 a2 a3).bind fun σ14 => (fh_gr 5 k1 18).bind fun k15 => fh_jn (f_X5_sheet_J82 k15 a2 k1) (fun j26 => if a3 = 0 then j26 ((0 : Int32)) σ14 else j26 a4 σ14) else fh_cb (f_X5_finding k1 ((-1000001 : Int32)) σ12) fun r28 σ27 => some (r28, σ27) else fh_cb (f_X5_finding k1 ((-1000007 : Int32)) σ12) fun r30 σ29 => some (r30, σ29)
def f_X5_sheet (k1 : Nat) (a2 : Int32) (a3 : Int32) (a4 : Int32) (σ5 : fh_S) : Option (Int32 × fh_S) := fh_ob 5 k1 (fh_cb (f_X5_isSheet a2 σ5) fun r7 σ6 => fh_jn (f_X5_sheet_J29 k1) (fun j11 => if r7 = 0 then j11 σ6 else fh_jn (f_X5_sheet_J36 a4 k1 a2 a3) (fun j31 => if a3 = 0 then j31 σ6 else if a3 = ((8 : Int32)) then j31 σ6 else if a3 = ((16 : Int32)) then j31 σ6 else if a3 = ((32 : Int32)) then j31 σ6 else j11 σ6)))
abbrev rm_X5_sheet : Room := { frames := 2, cells := 0, slots := 0, locals := 42 }
theorem pd_X5_sheet : yX5_sheet.cls ≠ "java/lang/invoke/MethodHandle" ∧ yX5_sheet.cls ≠ "java/lang/invoke/VarHandle" ∧ (parseMethodDescriptor yX5_sheet.desc).map (fun d => d.parameters.length) = some 3 := by decide +kernel
theorem dX5_sheet_0 : decode cX5_sheet 0 = .ok (.iload_n 1, 1) := by decide +kernel
theorem dX5_sheet_1 : decode cX5_sheet 1 = .ok (.invokestatic 206, 3) := by decide +kernel
theorem dX5_sheet_4 : decode cX5_sheet 4 = .ok (.ifCond .eq 25, 3) := by decide +kernel
theorem dX5_sheet_7 : decode cX5_sheet 7 = .ok (.iload_n 2, 1) := by decide +kernel
theorem dX5_sheet_8 : decode cX5_sheet 8 = .ok (.ifCond .eq 28, 3) := by decide +kernel
theorem dX5_sheet_11 : decode cX5_sheet 11 = .ok (.iload_n 2, 1) := by decide +kernel
theorem dX5_sheet_12 : decode cX5_sheet 12 = .ok (.bipush 8, 2) := by decide +kernel
theorem dX5_sheet_14 : decode cX5_sheet 14 = .ok (.if_icmp .eq 22, 3) := by decide +kernel
theorem dX5_sheet_17 : decode cX5_sheet 17 = .ok (.iload_n 2, 1) := by decide +kernel
theorem dX5_sheet_18 : decode cX5_sheet 18 = .ok (.bipush 16, 2) := by decide +kernel
theorem dX5_sheet_20 : decode cX5_sheet 20 = .ok (.if_icmp .eq 16, 3) := by decide +kernel
theorem dX5_sheet_23 : decode cX5_sheet 23 = .ok (.iload_n 2, 1) := by decide +kernel
theorem dX5_sheet_24 : decode cX5_sheet 24 = .ok (.bipush 32, 2) := by decide +kernel
theorem dX5_sheet_26 : decode cX5_sheet 26 = .ok (.if_icmp .eq 10, 3) := by decide +kernel
theorem dX5_sheet_29 : decode cX5_sheet 29 = .ok (.aload_n 0, 1) := by decide +kernel
theorem dX5_sheet_30 : decode cX5_sheet 30 = .ok (.ldc 63, 2) := by decide +kernel
theorem dX5_sheet_32 : decode cX5_sheet 32 = .ok (.invokevirtual 69, 3) := by decide +kernel
theorem dX5_sheet_35 : decode cX5_sheet 35 = .ok (.ireturn, 1) := by decide +kernel
theorem dX5_sheet_36 : decode cX5_sheet 36 = .ok (.iload_n 3, 1) := by decide +kernel
theorem dX5_sheet_37 : decode cX5_sheet 37 = .ok (.ifCond .ge 11, 3) := by decide +kernel
theorem dX5_sheet_40 : decode cX5_sheet 40 = .ok (.aload_n 0, 1) := by decide +kernel
theorem dX5_sheet_41 : decode cX5_sheet 41 = .ok (.ldc_w 315, 3) := by decide +kernel
theorem dX5_sheet_44 : decode cX5_sheet 44 = .ok (.invokevirtual 69, 3) := by decide +kernel
theorem dX5_sheet_47 : decode cX5_sheet 47 = .ok (.ireturn, 1) := by decide +kernel
theorem dX5_sheet_48 : decode cX5_sheet 48 = .ok (.iload_n 3, 1) := by decide +kernel
theorem dX5_sheet_49 : decode cX5_sheet 49 = .ok (.bipush 40, 2) := by decide +kernel
theorem dX5_sheet_51 : decode cX5_sheet 51 = .ok (.if_icmp .le 10, 3) := by decide +kernel
theorem dX5_sheet_54 : decode cX5_sheet 54 = .ok (.aload_n 0, 1) := by decide +kernel
theorem dX5_sheet_55 : decode cX5_sheet 55 = .ok (.ldc 63, 2) := by decide +kernel
theorem dX5_sheet_57 : decode cX5_sheet 57 = .ok (.invokevirtual 69, 3) := by decide +kernel
theorem dX5_sheet_60 : decode cX5_sheet 60 = .ok (.ireturn, 1) := by decide +kernel
theorem dX5_sheet_61 : decode cX5_sheet 61 = .ok (.aload_n 0, 1) := by decide +kernel
theorem dX5_sheet_62 : decode cX5_sheet 62 = .ok (.getfield 51, 3) := by decide +kernel
theorem dX5_sheet_65 : decode cX5_sheet 65 = .ok (.iload_n 1, 1) := by decide +kernel
theorem dX5_sheet_66 : decode cX5_sheet 66 = .ok (.iload_n 2, 1) := by decide +kernel
theorem dX5_sheet_67 : decode cX5_sheet 67 = .ok (.iastore, 1) := by decide +kernel
theorem dX5_sheet_68 : decode cX5_sheet 68 = .ok (.aload_n 0, 1) := by decide +kernel
theorem dX5_sheet_69 : decode cX5_sheet 69 = .ok (.getfield 54, 3) := by decide +kernel
theorem dX5_sheet_72 : decode cX5_sheet 72 = .ok (.iload_n 1, 1) := by decide +kernel
theorem dX5_sheet_73 : decode cX5_sheet 73 = .ok (.iload_n 2, 1) := by decide +kernel
theorem dX5_sheet_74 : decode cX5_sheet 74 = .ok (.ifCond .ne 7, 3) := by decide +kernel
theorem dX5_sheet_77 : decode cX5_sheet 77 = .ok (.iconst 0, 1) := by decide +kernel
theorem dX5_sheet_78 : decode cX5_sheet 78 = .ok (.goto 4, 3) := by decide +kernel
theorem dX5_sheet_81 : decode cX5_sheet 81 = .ok (.iload_n 3, 1) := by decide +kernel
theorem dX5_sheet_82 : decode cX5_sheet 82 = .ok (.iastore, 1) := by decide +kernel
theorem dX5_sheet_83 : decode cX5_sheet 83 = .ok (.iconst 0, 1) := by decide +kernel
theorem dX5_sheet_84 : decode cX5_sheet 84 = .ok (.istore 4, 2) := by decide +kernel
theorem dX5_sheet_86 : decode cX5_sheet 86 = .ok (.iload 4, 2) := by decide +kernel
theorem dX5_sheet_88 : decode cX5_sheet 88 = .ok (.bipush 40, 2) := by decide +kernel
theorem dX5_sheet_90 : decode cX5_sheet 90 = .ok (.if_icmp .ge 22, 3) := by decide +kernel
theorem dX5_sheet_93 : decode cX5_sheet 93 = .ok (.aload_n 0, 1) := by decide +kernel
theorem dX5_sheet_94 : decode cX5_sheet 94 = .ok (.getfield 57, 3) := by decide +kernel
theorem dX5_sheet_97 : decode cX5_sheet 97 = .ok (.bipush 40, 2) := by decide +kernel
theorem dX5_sheet_99 : decode cX5_sheet 99 = .ok (.iload_n 1, 1) := by decide +kernel
theorem dX5_sheet_100 : decode cX5_sheet 100 = .ok (.imul, 1) := by decide +kernel
theorem dX5_sheet_101 : decode cX5_sheet 101 = .ok (.iload 4, 2) := by decide +kernel
theorem dX5_sheet_103 : decode cX5_sheet 103 = .ok (.iadd, 1) := by decide +kernel
theorem dX5_sheet_104 : decode cX5_sheet 104 = .ok (.iconst 0, 1) := by decide +kernel
theorem dX5_sheet_105 : decode cX5_sheet 105 = .ok (.iastore, 1) := by decide +kernel
theorem dX5_sheet_106 : decode cX5_sheet 106 = .ok (.iinc 4 1, 3) := by decide +kernel
theorem dX5_sheet_109 : decode cX5_sheet 109 = .ok (.goto (-23), 3) := by decide +kernel
theorem dX5_sheet_112 : decode cX5_sheet 112 = .ok (.aload_n 0, 1) := by decide +kernel
theorem dX5_sheet_113 : decode cX5_sheet 113 = .ok (.getfield 54, 3) := by decide +kernel
theorem dX5_sheet_116 : decode cX5_sheet 116 = .ok (.iload_n 1, 1) := by decide +kernel
theorem dX5_sheet_117 : decode cX5_sheet 117 = .ok (.iaload, 1) := by decide +kernel
theorem dX5_sheet_118 : decode cX5_sheet 118 = .ok (.ireturn, 1) := by decide +kernel
set_option maxHeartbeats 4000000 in
set_option maxRecDepth 100000 in
theorem g_X5_sheet {E : fh_E} {M : fh_M} (C : fh_Cx E M cX5_sheet 5 RX5 ((some FieldType.int)) rm_X5_sheet) (Hr : fh_Rt E M) (k1 : Nat) (a2 : Int32) (a3 : Int32) (a4 : Int32) (σ5 : fh_S) : fh_Go E M 5 fh_vI 0 [(0, .ref (fh_ad E k1)), (1, .int a2), (2, .int a3), (3, .int a4)] [] σ5 (f_X5_sheet k1 a2 a3 a4 σ5) := by
  have hok := fh_cok C
  refine go_ob ?_
  refine go_iload_n C 1 rfl rfl dX5_sheet_0 ?_
  refine go_callSI C (st := []) [.int a2] (m_X5_isSheet E _ hok a2 σ5) rfl ⟨q_1065, q_1066, q_6, q_1067⟩ pd_X5_isSheet rfl ⟨⟨Nat.le_of_ble_eq_true rfl, Nat.le_of_ble_eq_true rfl⟩, rfl, rfl⟩ (Nat.le_of_ble_eq_true rfl) dX5_sheet_1 (fun r7 σ6 => ?_)
  refine go_jn (fun (j11 : fh_S → Option (Int32 × fh_S)) => ∀ (σ8 : fh_S), fh_Go E M 5 fh_vI 29 [(0, .ref (fh_ad E k1))] [] σ8 (j11 σ8)) ?_ (fun j11 hj11 => ?_)
  · intro σ8
    refine go_aload_n C 0 rfl rfl dX5_sheet_29 ?_
    refine go_ldc C q_820 dX5_sheet_30 ?_
    refine go_callVI C (st := []) [.int ((-1000001 : Int32))] (m_X5_finding E _ hok k1 ((-1000001 : Int32)) σ8) (fun _ h => fh_ob_ok h) rfl rfl ⟨q_821, q_823, qs_19, q_6, q_824⟩ pd_X5_finding rfl ⟨⟨Nat.le_of_ble_eq_true rfl, Nat.le_of_ble_eq_true rfl⟩, rfl, rfl⟩ (Nat.le_of_ble_eq_true rfl) dX5_sheet_32 (fun r10 σ9 => ?_)
    exact go_iret C Hr rfl dX5_sheet_35
  refine go_if_eq (tgt := 29) C dX5_sheet_4 rfl (fun _ => ?_) (fun _ => ?_)
  · refine go_lv [0] (lv' := [(0, .ref (fh_ad E k1))]) rfl ?_
    exact hj11 σ6
  · refine go_iload_n C 2 rfl rfl dX5_sheet_7 ?_
    refine go_jn (fun (j31 : fh_S → Option (Int32 × fh_S)) => ∀ (σ12 : fh_S), fh_Go E M 5 fh_vI 36 [(0, .ref (fh_ad E k1)), (1, .int a2), (2, .int a3), (3, .int a4)] [] σ12 (j31 σ12)) ?_ (fun j31 hj31 => ?_)
    · intro σ12
      refine go_iload_n C 3 rfl rfl dX5_sheet_36 ?_
      refine go_if_ge (tgt := 48) C dX5_sheet_37 rfl (fun _ => ?_) (fun _ => ?_)
      · refine go_iload_n C 3 rfl rfl dX5_sheet_48 ?_
        refine go_bipush C (40 : Int32) dX5_sheet_49 rfl ?_
        refine go_icmp_le (tgt := 61) C dX5_sheet_51 rfl (fun _ => ?_) (fun _ => ?_)
        · refine go_aload_n C 0 rfl rfl dX5_sheet_61 ?_
          refine go_gr (ci := 5) (j := 17) C fh_in5 rfl (by decide) rfl q_763 dX5_sheet_62 (fun k13 => ?_)
          refine go_iload_n C 1 rfl rfl dX5_sheet_65 ?_
          refine go_iload_n C 2 rfl rfl dX5_sheet_66 ?_
          refine go_iast C dX5_sheet_67 (fun σ14 => ?_)
          refine go_aload_n C 0 rfl rfl dX5_sheet_68 ?_
          refine go_gr (ci := 5) (j := 18) C fh_in5 rfl (by decide) rfl q_764 dX5_sheet_69 (fun k15 => ?_)
          refine go_iload_n C 1 rfl rfl dX5_sheet_72 ?_
          refine go_iload_n C 2 rfl rfl dX5_sheet_73 ?_
          refine go_jn (fun (j26 : Int32 → fh_S → Option (Int32 × fh_S)) => ∀ (x16 : Int32) (σ17 : fh_S), fh_Go E M 5 fh_vI 82 [(0, .ref (fh_ad E k1)), (1, .int a2)] [.int x16, .int a2, .ref (fh_ad E k15)] σ17 (j26 x16 σ17)) ?_ (fun j26 hj26 => ?_)
          · intro x16 σ17
            refine go_iast C dX5_sheet_82 (fun σ18 => ?_)
            refine go_iconst C (0 : Int32) dX5_sheet_83 rfl ?_
            refine go_istore C [(4, .int ((0 : Int32))), (0, .ref (fh_ad E k1)), (1, .int a2)] rfl (by decide) dX5_sheet_84 ?_
            refine go_lv [1, 2, 0] (lv' := [(0, .ref (fh_ad E k1)), (1, .int a2), (4, .int ((0 : Int32)))]) rfl ?_
            refine go_fx (fun (r21 : Int32 → fh_S → Option (Int32 × fh_S)) => ∀ (x19 : Int32) (σ20 : fh_S), fh_Go E M 5 fh_vI 86 [(0, .ref (fh_ad E k1)), (1, .int a2), (4, .int x19)] [] σ20 (r21 x19 σ20)) ?_ ?_ fh_fu ((0 : Int32)) σ18
            · intro x19 σ20
              exact go_none
            · intro r21 hr21 x19 σ20
              refine go_iload C 2 rfl dX5_sheet_86 ?_
              refine go_bipush C (40 : Int32) dX5_sheet_88 rfl ?_
              refine go_icmp_ge (tgt := 112) C dX5_sheet_90 rfl (fun _ => ?_) (fun _ => ?_)
              · refine go_aload_n C 0 rfl rfl dX5_sheet_112 ?_
                refine go_gr (ci := 5) (j := 18) C fh_in5 rfl (by decide) rfl q_764 dX5_sheet_113 (fun k22 => ?_)
                refine go_iload_n C 1 rfl rfl dX5_sheet_116 ?_
                refine go_iald C dX5_sheet_117 (fun v23 => ?_)
                exact go_iret C Hr rfl dX5_sheet_118
              · refine go_aload_n C 0 rfl rfl dX5_sheet_93 ?_
                refine go_gr (ci := 5) (j := 19) C fh_in5 rfl (by decide) rfl q_765 dX5_sheet_94 (fun k24 => ?_)
                refine go_bipush C (40 : Int32) dX5_sheet_97 rfl ?_
                refine go_iload_n C 1 rfl rfl dX5_sheet_99 ?_
                refine go_imul C dX5_sheet_100 ?_
                refine go_iload C 2 rfl dX5_sheet_101 ?_
                refine go_iadd C dX5_sheet_103 ?_
                refine go_iconst C (0 : Int32) dX5_sheet_104 rfl ?_
                refine go_iast C dX5_sheet_105 (fun σ25 => ?_)
                refine go_iinc C (x19 + 1) 2 [(4, .int (x19 + 1)), (0, .ref (fh_ad E k1)), (1, .int a2)] rfl rfl rfl (by decide) dX5_sheet_106 ?_
                refine go_goto C 86 dX5_sheet_109 rfl ?_
                refine go_lv [1, 2, 0] (lv' := [(0, .ref (fh_ad E k1)), (1, .int a2), (4, .int (x19 + 1))]) rfl ?_
                exact hr21 (x19 + 1) σ25
          refine go_if_ne (tgt := 81) C dX5_sheet_74 rfl (fun _ => ?_) (fun _ => ?_)
          · refine go_iload_n C 3 rfl rfl dX5_sheet_81 ?_
            refine go_lv [0, 1] (lv' := [(0, .ref (fh_ad E k1)), (1, .int a2)]) rfl ?_
            exact hj26 a4 σ14
          · refine go_iconst C (0 : Int32) dX5_sheet_77 rfl ?_
            refine go_goto C 82 dX5_sheet_78 rfl ?_
            refine go_lv [0, 1] (lv' := [(0, .ref (fh_ad E k1)), (1, .int a2)]) rfl ?_
            exact hj26 ((0 : Int32)) σ14
        · refine go_aload_n C 0 rfl rfl dX5_sheet_54 ?_
          refine go_ldc C q_820 dX5_sheet_55 ?_
          refine go_callVI C (st := []) [.int ((-1000001 : Int32))] (m_X5_finding E _ hok k1 ((-1000001 : Int32)) σ12) (fun _ h => fh_ob_ok h) rfl rfl ⟨q_821, q_823, qs_19, q_6, q_824⟩ pd_X5_finding rfl ⟨⟨Nat.le_of_ble_eq_true rfl, Nat.le_of_ble_eq_true rfl⟩, rfl, rfl⟩ (Nat.le_of_ble_eq_true rfl) dX5_sheet_57 (fun r28 σ27 => ?_)
          exact go_iret C Hr rfl dX5_sheet_60
      · refine go_aload_n C 0 rfl rfl dX5_sheet_40 ?_
        refine go_ldcw C q_1204 dX5_sheet_41 ?_
        refine go_callVI C (st := []) [.int ((-1000007 : Int32))] (m_X5_finding E _ hok k1 ((-1000007 : Int32)) σ12) (fun _ h => fh_ob_ok h) rfl rfl ⟨q_821, q_823, qs_19, q_6, q_824⟩ pd_X5_finding rfl ⟨⟨Nat.le_of_ble_eq_true rfl, Nat.le_of_ble_eq_true rfl⟩, rfl, rfl⟩ (Nat.le_of_ble_eq_true rfl) dX5_sheet_44 (fun r30 σ29 => ?_)
        exact go_iret C Hr rfl dX5_sheet_47
    refine go_if_eq (tgt := 36) C dX5_sheet_8 rfl (fun _ => ?_) (fun _ => ?_)
    · exact hj31 σ6
    · refine go_iload_n C 2 rfl rfl dX5_sheet_11 ?_
      refine go_bipush C (8 : Int32) dX5_sheet_12 rfl ?_
      refine go_icmp_eq (tgt := 36) C dX5_sheet_14 rfl (fun _ => ?_) (fun _ => ?_)
      · exact hj31 σ6
      · refine go_iload_n C 2 rfl rfl dX5_sheet_17 ?_
        refine go_bipush C (16 : Int32) dX5_sheet_18 rfl ?_
        refine go_icmp_eq (tgt := 36) C dX5_sheet_20 rfl (fun _ => ?_) (fun _ => ?_)
        · exact hj31 σ6
        · refine go_iload_n C 2 rfl rfl dX5_sheet_23 ?_
          refine go_bipush C (32 : Int32) dX5_sheet_24 rfl ?_
          refine go_icmp_eq (tgt := 36) C dX5_sheet_26 rfl (fun _ => ?_) (fun _ => ?_)
          · exact hj31 σ6
          · refine go_lv [0] (lv' := [(0, .ref (fh_ad E k1))]) rfl ?_
            exact hj11 σ6
theorem m_X5_sheet (E : fh_E) (l : Launch) (hok : fh_ok E) (k1 : Nat) (a2 : Int32) (a3 : Int32) (a4 : Int32) (σ5 : fh_S) : fh_Met E l yX5_sheet cX5_sheet 5 ((some FieldType.int)) rm_X5_sheet fh_vI [.ref (fh_ad E k1), .int a2, .int a3, .int a4] σ5 (f_X5_sheet k1 a2 a3 a4 σ5) := fh_met hok (by decide +kernel) (Nat.le_of_ble_eq_true rfl) (fun M _ C Hr => g_X5_sheet C Hr k1 a2 a3 a4 σ5)
def f_X5_write (k1 : Nat) (a2 : Int32) (a3 : Int32) (a4 : Int32) (σ5 : fh_S) : Option (Int32 × fh_S) := fh_ob 5 k1 (fh_cb (f_X5_isSheet a2 σ5) fun r7 σ6 => if r7 = 0 then fh_cb (f_X5_finding k1 ((-1000001 : Int32)) σ6) fun r25 σ24 => some (r25, σ24) else (fh_gr 5 k1 17).bind fun k8 => (fh_ld σ6 k8 a2).bind fun v9 => if v9 = 0 then fh_cb (f_X5_finding k1 ((-1000006 : Int32)) σ6) fun r23 σ22 => some (r23, σ22) else (fh_gr 5 k1 18).bind fun k10 => (fh_ld σ6 k10 a2).bind fun v11 => fh_cb (f_X5_within a3 ((0 : Int32)) (v11 - ((1 : Int32))) σ6) fun r13 σ12 => if r13 = 0 then fh_cb (f_X5_finding k1 ((-1000001 : Int32)) σ12) fun r21 σ20 => some (r21, σ20) else (fh_gr 5 k1 19).bind fun k14 => (fh_gr 5 k1 17).bind fun k15 => (fh_ld σ12 k15 a2).bind fun v16 => fh_cb (f_X5_cutTo a4 v16 σ12) fun r18 σ17 => (fh_st σ17 k14 ((((40 : Int32)) * a2) + a3) r18).bind fun σ19 => some ((1 : Int32), σ19))
abbrev rm_X5_write : Room := { frames := 2, cells := 0, slots := 0, locals := 42 }
theorem pd_X5_write : yX5_write.cls ≠ "java/lang/invoke/MethodHandle" ∧ yX5_write.cls ≠ "java/lang/invoke/VarHandle" ∧ (parseMethodDescriptor yX5_write.desc).map (fun d => d.parameters.length) = some 3 := by decide +kernel
theorem dX5_write_0 : decode cX5_write 0 = .ok (.iload_n 1, 1) := by decide +kernel
theorem dX5_write_1 : decode cX5_write 1 = .ok (.invokestatic 206, 3) := by decide +kernel
theorem dX5_write_4 : decode cX5_write 4 = .ok (.ifCond .ne 10, 3) := by decide +kernel
theorem dX5_write_7 : decode cX5_write 7 = .ok (.aload_n 0, 1) := by decide +kernel
theorem dX5_write_8 : decode cX5_write 8 = .ok (.ldc 63, 2) := by decide +kernel
theorem dX5_write_10 : decode cX5_write 10 = .ok (.invokevirtual 69, 3) := by decide +kernel
theorem dX5_write_13 : decode cX5_write 13 = .ok (.ireturn, 1) := by decide +kernel
theorem dX5_write_14 : decode cX5_write 14 = .ok (.aload_n 0, 1) := by decide +kernel
theorem dX5_write_15 : decode cX5_write 15 = .ok (.getfield 51, 3) := by decide +kernel
theorem dX5_write_18 : decode cX5_write 18 = .ok (.iload_n 1, 1) := by decide +kernel
theorem dX5_write_19 : decode cX5_write 19 = .ok (.iaload, 1) := by decide +kernel
theorem dX5_write_20 : decode cX5_write 20 = .ok (.ifCond .ne 10, 3) := by decide +kernel
theorem dX5_write_23 : decode cX5_write 23 = .ok (.aload_n 0, 1) := by decide +kernel
theorem dX5_write_24 : decode cX5_write 24 = .ok (.ldc 209, 2) := by decide +kernel
theorem dX5_write_26 : decode cX5_write 26 = .ok (.invokevirtual 69, 3) := by decide +kernel
theorem dX5_write_29 : decode cX5_write 29 = .ok (.ireturn, 1) := by decide +kernel
theorem dX5_write_30 : decode cX5_write 30 = .ok (.iload_n 2, 1) := by decide +kernel
theorem dX5_write_31 : decode cX5_write 31 = .ok (.iconst 0, 1) := by decide +kernel
theorem dX5_write_32 : decode cX5_write 32 = .ok (.aload_n 0, 1) := by decide +kernel
theorem dX5_write_33 : decode cX5_write 33 = .ok (.getfield 54, 3) := by decide +kernel
theorem dX5_write_36 : decode cX5_write 36 = .ok (.iload_n 1, 1) := by decide +kernel
theorem dX5_write_37 : decode cX5_write 37 = .ok (.iaload, 1) := by decide +kernel
theorem dX5_write_38 : decode cX5_write 38 = .ok (.iconst 1, 1) := by decide +kernel
theorem dX5_write_39 : decode cX5_write 39 = .ok (.isub, 1) := by decide +kernel
theorem dX5_write_40 : decode cX5_write 40 = .ok (.invokestatic 73, 3) := by decide +kernel
theorem dX5_write_43 : decode cX5_write 43 = .ok (.ifCond .ne 10, 3) := by decide +kernel
theorem dX5_write_46 : decode cX5_write 46 = .ok (.aload_n 0, 1) := by decide +kernel
theorem dX5_write_47 : decode cX5_write 47 = .ok (.ldc 63, 2) := by decide +kernel
theorem dX5_write_49 : decode cX5_write 49 = .ok (.invokevirtual 69, 3) := by decide +kernel
theorem dX5_write_52 : decode cX5_write 52 = .ok (.ireturn, 1) := by decide +kernel
theorem dX5_write_53 : decode cX5_write 53 = .ok (.aload_n 0, 1) := by decide +kernel
theorem dX5_write_54 : decode cX5_write 54 = .ok (.getfield 57, 3) := by decide +kernel
theorem dX5_write_57 : decode cX5_write 57 = .ok (.bipush 40, 2) := by decide +kernel
theorem dX5_write_59 : decode cX5_write 59 = .ok (.iload_n 1, 1) := by decide +kernel
theorem dX5_write_60 : decode cX5_write 60 = .ok (.imul, 1) := by decide +kernel
theorem dX5_write_61 : decode cX5_write 61 = .ok (.iload_n 2, 1) := by decide +kernel
theorem dX5_write_62 : decode cX5_write 62 = .ok (.iadd, 1) := by decide +kernel
theorem dX5_write_63 : decode cX5_write 63 = .ok (.iload_n 3, 1) := by decide +kernel
theorem dX5_write_64 : decode cX5_write 64 = .ok (.aload_n 0, 1) := by decide +kernel
theorem dX5_write_65 : decode cX5_write 65 = .ok (.getfield 51, 3) := by decide +kernel
theorem dX5_write_68 : decode cX5_write 68 = .ok (.iload_n 1, 1) := by decide +kernel
theorem dX5_write_69 : decode cX5_write 69 = .ok (.iaload, 1) := by decide +kernel
theorem dX5_write_70 : decode cX5_write 70 = .ok (.invokestatic 316, 3) := by decide +kernel
theorem dX5_write_73 : decode cX5_write 73 = .ok (.iastore, 1) := by decide +kernel
theorem dX5_write_74 : decode cX5_write 74 = .ok (.iconst 1, 1) := by decide +kernel
theorem dX5_write_75 : decode cX5_write 75 = .ok (.ireturn, 1) := by decide +kernel
set_option maxHeartbeats 4000000 in
set_option maxRecDepth 100000 in
theorem g_X5_write {E : fh_E} {M : fh_M} (C : fh_Cx E M cX5_write 4 RX5 ((some FieldType.int)) rm_X5_write) (Hr : fh_Rt E M) (k1 : Nat) (a2 : Int32) (a3 : Int32) (a4 : Int32) (σ5 : fh_S) : fh_Go E M 4 fh_vI 0 [(0, .ref (fh_ad E k1)), (1, .int a2), (2, .int a3), (3, .int a4)] [] σ5 (f_X5_write k1 a2 a3 a4 σ5) := by
  have hok := fh_cok C
  refine go_ob ?_
  refine go_iload_n C 1 rfl rfl dX5_write_0 ?_
  refine go_callSI C (st := []) [.int a2] (m_X5_isSheet E _ hok a2 σ5) rfl ⟨q_1065, q_1066, q_6, q_1067⟩ pd_X5_isSheet rfl ⟨⟨Nat.le_of_ble_eq_true rfl, Nat.le_of_ble_eq_true rfl⟩, rfl, rfl⟩ (Nat.le_of_ble_eq_true rfl) dX5_write_1 (fun r7 σ6 => ?_)
  refine go_if_ne (tgt := 14) C dX5_write_4 rfl (fun _ => ?_) (fun _ => ?_)
  · refine go_aload_n C 0 rfl rfl dX5_write_14 ?_
    refine go_gr (ci := 5) (j := 17) C fh_in5 rfl (by decide) rfl q_763 dX5_write_15 (fun k8 => ?_)
    refine go_iload_n C 1 rfl rfl dX5_write_18 ?_
    refine go_iald C dX5_write_19 (fun v9 => ?_)
    refine go_if_ne (tgt := 30) C dX5_write_20 rfl (fun _ => ?_) (fun _ => ?_)
    · refine go_iload_n C 2 rfl rfl dX5_write_30 ?_
      refine go_iconst C (0 : Int32) dX5_write_31 rfl ?_
      refine go_aload_n C 0 rfl rfl dX5_write_32 ?_
      refine go_gr (ci := 5) (j := 18) C fh_in5 rfl (by decide) rfl q_764 dX5_write_33 (fun k10 => ?_)
      refine go_iload_n C 1 rfl rfl dX5_write_36 ?_
      refine go_iald C dX5_write_37 (fun v11 => ?_)
      refine go_iconst C (1 : Int32) dX5_write_38 rfl ?_
      refine go_isub C dX5_write_39 ?_
      refine go_callSI C (st := []) [.int a3, .int ((0 : Int32)), .int (v11 - ((1 : Int32)))] (m_X5_within E _ hok a3 ((0 : Int32)) (v11 - ((1 : Int32))) σ6) rfl ⟨q_817, q_818, q_6, q_819⟩ pd_X5_within rfl ⟨⟨Nat.le_of_ble_eq_true rfl, Nat.le_of_ble_eq_true rfl⟩, rfl, rfl⟩ (Nat.le_of_ble_eq_true rfl) dX5_write_40 (fun r13 σ12 => ?_)
      refine go_if_ne (tgt := 53) C dX5_write_43 rfl (fun _ => ?_) (fun _ => ?_)
      · refine go_aload_n C 0 rfl rfl dX5_write_53 ?_
        refine go_gr (ci := 5) (j := 19) C fh_in5 rfl (by decide) rfl q_765 dX5_write_54 (fun k14 => ?_)
        refine go_bipush C (40 : Int32) dX5_write_57 rfl ?_
        refine go_iload_n C 1 rfl rfl dX5_write_59 ?_
        refine go_imul C dX5_write_60 ?_
        refine go_iload_n C 2 rfl rfl dX5_write_61 ?_
        refine go_iadd C dX5_write_62 ?_
        refine go_iload_n C 3 rfl rfl dX5_write_63 ?_
        refine go_aload_n C 0 rfl rfl dX5_write_64 ?_
        refine go_gr (ci := 5) (j := 17) C fh_in5 rfl (by decide) rfl q_763 dX5_write_65 (fun k15 => ?_)
        refine go_iload_n C 1 rfl rfl dX5_write_68 ?_
        refine go_iald C dX5_write_69 (fun v16 => ?_)
        refine go_callSI C (st := [.int ((((40 : Int32)) * a2) + a3), .ref (fh_ad E k14)]) [.int a4, .int v16] (m_X5_cutTo E _ hok a4 v16 σ12) rfl ⟨q_1209, q_1210, q_6, q_1211⟩ pd_X5_cutTo rfl ⟨⟨Nat.le_of_ble_eq_true rfl, Nat.le_of_ble_eq_true rfl⟩, rfl, rfl⟩ (Nat.le_of_ble_eq_true rfl) dX5_write_70 (fun r18 σ17 => ?_)
        refine go_iast C dX5_write_73 (fun σ19 => ?_)
        refine go_iconst C (1 : Int32) dX5_write_74 rfl ?_
        exact go_iret C Hr rfl dX5_write_75
      · refine go_aload_n C 0 rfl rfl dX5_write_46 ?_
        refine go_ldc C q_820 dX5_write_47 ?_
        refine go_callVI C (st := []) [.int ((-1000001 : Int32))] (m_X5_finding E _ hok k1 ((-1000001 : Int32)) σ12) (fun _ h => fh_ob_ok h) rfl rfl ⟨q_821, q_823, qs_19, q_6, q_824⟩ pd_X5_finding rfl ⟨⟨Nat.le_of_ble_eq_true rfl, Nat.le_of_ble_eq_true rfl⟩, rfl, rfl⟩ (Nat.le_of_ble_eq_true rfl) dX5_write_49 (fun r21 σ20 => ?_)
        exact go_iret C Hr rfl dX5_write_52
    · refine go_aload_n C 0 rfl rfl dX5_write_23 ?_
      refine go_ldc C q_1068 dX5_write_24 ?_
      refine go_callVI C (st := []) [.int ((-1000006 : Int32))] (m_X5_finding E _ hok k1 ((-1000006 : Int32)) σ6) (fun _ h => fh_ob_ok h) rfl rfl ⟨q_821, q_823, qs_19, q_6, q_824⟩ pd_X5_finding rfl ⟨⟨Nat.le_of_ble_eq_true rfl, Nat.le_of_ble_eq_true rfl⟩, rfl, rfl⟩ (Nat.le_of_ble_eq_true rfl) dX5_write_26 (fun r23 σ22 => ?_)
      exact go_iret C Hr rfl dX5_write_29
  · refine go_aload_n C 0 rfl rfl dX5_write_7 ?_
    refine go_ldc C q_820 dX5_write_8 ?_
    refine go_callVI C (st := []) [.int ((-1000001 : Int32))] (m_X5_finding E _ hok k1 ((-1000001 : Int32)) σ6) (fun _ h => fh_ob_ok h) rfl rfl ⟨q_821, q_823, qs_19, q_6, q_824⟩ pd_X5_finding rfl ⟨⟨Nat.le_of_ble_eq_true rfl, Nat.le_of_ble_eq_true rfl⟩, rfl, rfl⟩ (Nat.le_of_ble_eq_true rfl) dX5_write_10 (fun r25 σ24 => ?_)
    exact go_iret C Hr rfl dX5_write_13
theorem m_X5_write (E : fh_E) (l : Launch) (hok : fh_ok E) (k1 : Nat) (a2 : Int32) (a3 : Int32) (a4 : Int32) (σ5 : fh_S) : fh_Met E l yX5_write cX5_write 4 ((some FieldType.int)) rm_X5_write fh_vI [.ref (fh_ad E k1), .int a2, .int a3, .int a4] σ5 (f_X5_write k1 a2 a3 a4 σ5) := fh_met hok (by decide +kernel) (Nat.le_of_ble_eq_true rfl) (fun M _ C Hr => g_X5_write C Hr k1 a2 a3 a4 σ5)
def f_X5_copy_J14 (k1 : Nat) : fh_S → Option (Int32 × fh_S) := fun σ10 => fh_cb (f_X5_finding k1 ((-1000001 : Int32)) σ10) fun r12 σ11 => some (r12, σ11)
def f_X5_copy_J39 (k1 : Nat) : fh_S → Option (Int32 × fh_S) := fun σ18 => fh_cb (f_X5_finding k1 ((-1000006 : Int32)) σ18) fun r20 σ19 => some (r20, σ19)
def f_X5_copy_J118 (k1 : Nat) : fh_S → Option (Int32 × fh_S) := fun σ28 => fh_cb (f_X5_finding k1 ((-1000001 : Int32)) σ28) fun r30 σ29 => some (r30, σ29)
def f_X5_copy_B165 (a6 : Int32) (k1 : Nat) (a4 : Int32) (a5 : Int32) (r41 : Int32 → fh_S → Option (Int32 × fh_S)) : Int32 → fh_S → Option (Int32 × fh_S) := fun x39 σ40 => if a6 ≤ x39 then some (a6, σ40) else (fh_gr 5 k1 19).bind fun k42 => (fh_gr 5 k1 20).bind fun k43 => (fh_ld σ40 k43 x39).bind fun v44 => (fh_st σ40 k42 (((((40 : Int32)) * a4) + a5) + x39) v44).bind fun σ45 => r41 (x39 + 1) σ45
def f_X5_copy_B128 (a6 : Int32) (k1 : Nat) (a4 : Int32) (a5 : Int32) (a2 : Int32) (a3 : Int32) (r38 : Int32 → fh_S → Option (Int32 × fh_S)) : Int32 → fh_S → Option (Int32 × fh_S) := fun x36 σ37 => if a6 ≤ x36 then fh_fx (ρ := Int32 → fh_S → Option (Int32 × fh_S)) (fun _ _ => none) (f_X5_copy_B165 a6 k1 a4 a5) fh_fu ((0 : Int32)) σ37 else (fh_gr 5 k1 20).bind fun k46 => (fh_gr 5 k1 19).bind fun k47 => (fh_ld σ37 k47 (((((40 : Int32)) * a2) + a3) + x36)).bind fun v48 => (fh_st σ37 k46 x36 v48).bind fun σ49 => r38 (x36 + 1) σ49
def f_X5_copy (k1 : Nat) (a2 : Int32) (a3 : Int32) (a4 : Int32) (a5 : Int32) (a6 : Int32) (σ7 : fh_S) : Option (Int32 × fh_S) := fh_ob 5 k1 (fh_cb (f_X5_isSheet a2 σ7) fun r9 σ8 => fh_jn (f_X5_copy_J14 k1) (fun j13 => if r9 = 0 then j13 σ8 else fh_cb (f_X5_isSheet a4 σ8) fun r15 σ14 => if r15 = 0 then j13 σ14 else (fh_gr 5 k1 17).bind fun k16 => (fh_ld σ14 k16 a2).bind fun v17 => fh_jn (f_X5_copy_J39 k1) (fun j21 => if v17 = 0 then j21 σ14 else (fh_gr 5 k1 17).bind fun k22 => (fh_ld σ14 k22 a4).bind fun v23 => if v23 = 0 then j21 σ14 else (fh_gr 5 k1 17).bind fun k24 => (fh_ld σ14 k24 a2).bind fun v25 => (fh_gr 5 k1 17).bind fun k26 => (fh_ld σ14 k26 a4).bind fun v27 => if v25 = v27 then fh_jn (f_X5_copy_J118 k1) (fun j31 => if a3 < 0 then j31 σ14 else if a5 < 0 then j31 σ14 else if a6 < 0 then j31 σ14 else (fh_gr 5 k1 18).bind fun k32 => (fh_ld σ14 k32 a2).bind fun v33 => if 0 < (lg_cmp (a3.toInt64 + a6.toInt64) v33.toInt64) then j31 σ14 else (fh_gr 5 k1 18).bind fun k34 => (fh_ld σ14 k34 a4).bind fun v35 => if (lg_cmp (a5.toInt64 + a6.toInt64) v35.toInt64) ≤ 0 then fh_fx (ρ := Int32 → fh_S → Option (Int32 × fh_S)) (fun _ _ => none) (f_X5_copy_B128 a6 k1 a4 a5 a2 a3) fh_fu ((0 : Int32)) σ14 else j31 σ14) else fh_cb (f_X5_finding k1 ((-1000003 : Int32)) σ14) fun r51 σ50 => some (r51, σ50))))
abbrev rm_X5_copy : Room := { frames := 2, cells := 0, slots := 0, locals := 42 }
theorem pd_X5_copy : yX5_copy.cls ≠ "java/lang/invoke/MethodHandle" ∧ yX5_copy.cls ≠ "java/lang/invoke/VarHandle" ∧ (parseMethodDescriptor yX5_copy.desc).map (fun d => d.parameters.length) = some 5 := by decide +kernel
theorem dX5_copy_0 : decode cX5_copy 0 = .ok (.iload_n 1, 1) := by decide +kernel
theorem dX5_copy_1 : decode cX5_copy 1 = .ok (.invokestatic 206, 3) := by decide +kernel
theorem dX5_copy_4 : decode cX5_copy 4 = .ok (.ifCond .eq 10, 3) := by decide +kernel
theorem dX5_copy_7 : decode cX5_copy 7 = .ok (.iload_n 3, 1) := by decide +kernel
theorem dX5_copy_8 : decode cX5_copy 8 = .ok (.invokestatic 206, 3) := by decide +kernel
theorem dX5_copy_11 : decode cX5_copy 11 = .ok (.ifCond .ne 10, 3) := by decide +kernel
theorem dX5_copy_14 : decode cX5_copy 14 = .ok (.aload_n 0, 1) := by decide +kernel
theorem dX5_copy_15 : decode cX5_copy 15 = .ok (.ldc 63, 2) := by decide +kernel
theorem dX5_copy_17 : decode cX5_copy 17 = .ok (.invokevirtual 69, 3) := by decide +kernel
theorem dX5_copy_20 : decode cX5_copy 20 = .ok (.ireturn, 1) := by decide +kernel
theorem dX5_copy_21 : decode cX5_copy 21 = .ok (.aload_n 0, 1) := by decide +kernel
theorem dX5_copy_22 : decode cX5_copy 22 = .ok (.getfield 51, 3) := by decide +kernel
theorem dX5_copy_25 : decode cX5_copy 25 = .ok (.iload_n 1, 1) := by decide +kernel
theorem dX5_copy_26 : decode cX5_copy 26 = .ok (.iaload, 1) := by decide +kernel
theorem dX5_copy_27 : decode cX5_copy 27 = .ok (.ifCond .eq 12, 3) := by decide +kernel
theorem dX5_copy_30 : decode cX5_copy 30 = .ok (.aload_n 0, 1) := by decide +kernel
theorem dX5_copy_31 : decode cX5_copy 31 = .ok (.getfield 51, 3) := by decide +kernel
theorem dX5_copy_34 : decode cX5_copy 34 = .ok (.iload_n 3, 1) := by decide +kernel
theorem dX5_copy_35 : decode cX5_copy 35 = .ok (.iaload, 1) := by decide +kernel
theorem dX5_copy_36 : decode cX5_copy 36 = .ok (.ifCond .ne 10, 3) := by decide +kernel
theorem dX5_copy_39 : decode cX5_copy 39 = .ok (.aload_n 0, 1) := by decide +kernel
theorem dX5_copy_40 : decode cX5_copy 40 = .ok (.ldc 209, 2) := by decide +kernel
theorem dX5_copy_42 : decode cX5_copy 42 = .ok (.invokevirtual 69, 3) := by decide +kernel
theorem dX5_copy_45 : decode cX5_copy 45 = .ok (.ireturn, 1) := by decide +kernel
theorem dX5_copy_46 : decode cX5_copy 46 = .ok (.aload_n 0, 1) := by decide +kernel
theorem dX5_copy_47 : decode cX5_copy 47 = .ok (.getfield 51, 3) := by decide +kernel
theorem dX5_copy_50 : decode cX5_copy 50 = .ok (.iload_n 1, 1) := by decide +kernel
theorem dX5_copy_51 : decode cX5_copy 51 = .ok (.iaload, 1) := by decide +kernel
theorem dX5_copy_52 : decode cX5_copy 52 = .ok (.aload_n 0, 1) := by decide +kernel
theorem dX5_copy_53 : decode cX5_copy 53 = .ok (.getfield 51, 3) := by decide +kernel
theorem dX5_copy_56 : decode cX5_copy 56 = .ok (.iload_n 3, 1) := by decide +kernel
theorem dX5_copy_57 : decode cX5_copy 57 = .ok (.iaload, 1) := by decide +kernel
theorem dX5_copy_58 : decode cX5_copy 58 = .ok (.if_icmp .eq 11, 3) := by decide +kernel
theorem dX5_copy_61 : decode cX5_copy 61 = .ok (.aload_n 0, 1) := by decide +kernel
theorem dX5_copy_62 : decode cX5_copy 62 = .ok (.ldc_w 314, 3) := by decide +kernel
theorem dX5_copy_65 : decode cX5_copy 65 = .ok (.invokevirtual 69, 3) := by decide +kernel
theorem dX5_copy_68 : decode cX5_copy 68 = .ok (.ireturn, 1) := by decide +kernel
theorem dX5_copy_69 : decode cX5_copy 69 = .ok (.iload_n 2, 1) := by decide +kernel
theorem dX5_copy_70 : decode cX5_copy 70 = .ok (.ifCond .lt 48, 3) := by decide +kernel
theorem dX5_copy_73 : decode cX5_copy 73 = .ok (.iload 4, 2) := by decide +kernel
theorem dX5_copy_75 : decode cX5_copy 75 = .ok (.ifCond .lt 43, 3) := by decide +kernel
theorem dX5_copy_78 : decode cX5_copy 78 = .ok (.iload 5, 2) := by decide +kernel
theorem dX5_copy_80 : decode cX5_copy 80 = .ok (.ifCond .lt 38, 3) := by decide +kernel
theorem dX5_copy_83 : decode cX5_copy 83 = .ok (.iload_n 2, 1) := by decide +kernel
theorem dX5_copy_84 : decode cX5_copy 84 = .ok (.i2l, 1) := by decide +kernel
theorem dX5_copy_85 : decode cX5_copy 85 = .ok (.iload 5, 2) := by decide +kernel
theorem dX5_copy_87 : decode cX5_copy 87 = .ok (.i2l, 1) := by decide +kernel
theorem dX5_copy_88 : decode cX5_copy 88 = .ok (.ladd, 1) := by decide +kernel
theorem dX5_copy_89 : decode cX5_copy 89 = .ok (.aload_n 0, 1) := by decide +kernel
theorem dX5_copy_90 : decode cX5_copy 90 = .ok (.getfield 54, 3) := by decide +kernel
theorem dX5_copy_93 : decode cX5_copy 93 = .ok (.iload_n 1, 1) := by decide +kernel
theorem dX5_copy_94 : decode cX5_copy 94 = .ok (.iaload, 1) := by decide +kernel
theorem dX5_copy_95 : decode cX5_copy 95 = .ok (.i2l, 1) := by decide +kernel
theorem dX5_copy_96 : decode cX5_copy 96 = .ok (.lcmp, 1) := by decide +kernel
theorem dX5_copy_97 : decode cX5_copy 97 = .ok (.ifCond .gt 21, 3) := by decide +kernel
theorem dX5_copy_100 : decode cX5_copy 100 = .ok (.iload 4, 2) := by decide +kernel
theorem dX5_copy_102 : decode cX5_copy 102 = .ok (.i2l, 1) := by decide +kernel
theorem dX5_copy_103 : decode cX5_copy 103 = .ok (.iload 5, 2) := by decide +kernel
theorem dX5_copy_105 : decode cX5_copy 105 = .ok (.i2l, 1) := by decide +kernel
theorem dX5_copy_106 : decode cX5_copy 106 = .ok (.ladd, 1) := by decide +kernel
theorem dX5_copy_107 : decode cX5_copy 107 = .ok (.aload_n 0, 1) := by decide +kernel
theorem dX5_copy_108 : decode cX5_copy 108 = .ok (.getfield 54, 3) := by decide +kernel
theorem dX5_copy_111 : decode cX5_copy 111 = .ok (.iload_n 3, 1) := by decide +kernel
theorem dX5_copy_112 : decode cX5_copy 112 = .ok (.iaload, 1) := by decide +kernel
theorem dX5_copy_113 : decode cX5_copy 113 = .ok (.i2l, 1) := by decide +kernel
theorem dX5_copy_114 : decode cX5_copy 114 = .ok (.lcmp, 1) := by decide +kernel
theorem dX5_copy_115 : decode cX5_copy 115 = .ok (.ifCond .le 10, 3) := by decide +kernel
theorem dX5_copy_118 : decode cX5_copy 118 = .ok (.aload_n 0, 1) := by decide +kernel
theorem dX5_copy_119 : decode cX5_copy 119 = .ok (.ldc 63, 2) := by decide +kernel
theorem dX5_copy_121 : decode cX5_copy 121 = .ok (.invokevirtual 69, 3) := by decide +kernel
theorem dX5_copy_124 : decode cX5_copy 124 = .ok (.ireturn, 1) := by decide +kernel
theorem dX5_copy_125 : decode cX5_copy 125 = .ok (.iconst 0, 1) := by decide +kernel
theorem dX5_copy_126 : decode cX5_copy 126 = .ok (.istore 6, 2) := by decide +kernel
theorem dX5_copy_128 : decode cX5_copy 128 = .ok (.iload 6, 2) := by decide +kernel
theorem dX5_copy_130 : decode cX5_copy 130 = .ok (.iload 5, 2) := by decide +kernel
theorem dX5_copy_132 : decode cX5_copy 132 = .ok (.if_icmp .ge 30, 3) := by decide +kernel
theorem dX5_copy_135 : decode cX5_copy 135 = .ok (.aload_n 0, 1) := by decide +kernel
theorem dX5_copy_136 : decode cX5_copy 136 = .ok (.getfield 60, 3) := by decide +kernel
theorem dX5_copy_139 : decode cX5_copy 139 = .ok (.iload 6, 2) := by decide +kernel
theorem dX5_copy_141 : decode cX5_copy 141 = .ok (.aload_n 0, 1) := by decide +kernel
theorem dX5_copy_142 : decode cX5_copy 142 = .ok (.getfield 57, 3) := by decide +kernel
theorem dX5_copy_145 : decode cX5_copy 145 = .ok (.bipush 40, 2) := by decide +kernel
theorem dX5_copy_147 : decode cX5_copy 147 = .ok (.iload_n 1, 1) := by decide +kernel
theorem dX5_copy_148 : decode cX5_copy 148 = .ok (.imul, 1) := by decide +kernel
theorem dX5_copy_149 : decode cX5_copy 149 = .ok (.iload_n 2, 1) := by decide +kernel
theorem dX5_copy_150 : decode cX5_copy 150 = .ok (.iadd, 1) := by decide +kernel
theorem dX5_copy_151 : decode cX5_copy 151 = .ok (.iload 6, 2) := by decide +kernel
theorem dX5_copy_153 : decode cX5_copy 153 = .ok (.iadd, 1) := by decide +kernel
theorem dX5_copy_154 : decode cX5_copy 154 = .ok (.iaload, 1) := by decide +kernel
theorem dX5_copy_155 : decode cX5_copy 155 = .ok (.iastore, 1) := by decide +kernel
theorem dX5_copy_156 : decode cX5_copy 156 = .ok (.iinc 6 1, 3) := by decide +kernel
theorem dX5_copy_159 : decode cX5_copy 159 = .ok (.goto (-31), 3) := by decide +kernel
theorem dX5_copy_162 : decode cX5_copy 162 = .ok (.iconst 0, 1) := by decide +kernel
theorem dX5_copy_163 : decode cX5_copy 163 = .ok (.istore 6, 2) := by decide +kernel
theorem dX5_copy_165 : decode cX5_copy 165 = .ok (.iload 6, 2) := by decide +kernel
theorem dX5_copy_167 : decode cX5_copy 167 = .ok (.iload 5, 2) := by decide +kernel
theorem dX5_copy_169 : decode cX5_copy 169 = .ok (.if_icmp .ge 31, 3) := by decide +kernel
theorem dX5_copy_172 : decode cX5_copy 172 = .ok (.aload_n 0, 1) := by decide +kernel
theorem dX5_copy_173 : decode cX5_copy 173 = .ok (.getfield 57, 3) := by decide +kernel
theorem dX5_copy_176 : decode cX5_copy 176 = .ok (.bipush 40, 2) := by decide +kernel
theorem dX5_copy_178 : decode cX5_copy 178 = .ok (.iload_n 3, 1) := by decide +kernel
theorem dX5_copy_179 : decode cX5_copy 179 = .ok (.imul, 1) := by decide +kernel
theorem dX5_copy_180 : decode cX5_copy 180 = .ok (.iload 4, 2) := by decide +kernel
theorem dX5_copy_182 : decode cX5_copy 182 = .ok (.iadd, 1) := by decide +kernel
theorem dX5_copy_183 : decode cX5_copy 183 = .ok (.iload 6, 2) := by decide +kernel
theorem dX5_copy_185 : decode cX5_copy 185 = .ok (.iadd, 1) := by decide +kernel
theorem dX5_copy_186 : decode cX5_copy 186 = .ok (.aload_n 0, 1) := by decide +kernel
theorem dX5_copy_187 : decode cX5_copy 187 = .ok (.getfield 60, 3) := by decide +kernel
theorem dX5_copy_190 : decode cX5_copy 190 = .ok (.iload 6, 2) := by decide +kernel
theorem dX5_copy_192 : decode cX5_copy 192 = .ok (.iaload, 1) := by decide +kernel
theorem dX5_copy_193 : decode cX5_copy 193 = .ok (.iastore, 1) := by decide +kernel
theorem dX5_copy_194 : decode cX5_copy 194 = .ok (.iinc 6 1, 3) := by decide +kernel
theorem dX5_copy_197 : decode cX5_copy 197 = .ok (.goto (-32), 3) := by decide +kernel
theorem dX5_copy_200 : decode cX5_copy 200 = .ok (.iload 5, 2) := by decide +kernel
theorem dX5_copy_202 : decode cX5_copy 202 = .ok (.ireturn, 1) := by decide +kernel
set_option maxHeartbeats 4000000 in
set_option maxRecDepth 100000 in
theorem g_X5_copy {E : fh_E} {M : fh_M} (C : fh_Cx E M cX5_copy 7 RX5 ((some FieldType.int)) rm_X5_copy) (Hr : fh_Rt E M) (k1 : Nat) (a2 : Int32) (a3 : Int32) (a4 : Int32) (a5 : Int32) (a6 : Int32) (σ7 : fh_S) : fh_Go E M 7 fh_vI 0 [(0, .ref (fh_ad E k1)), (1, .int a2), (2, .int a3), (3, .int a4), (4, .int a5), (5, .int a6)] [] σ7 (f_X5_copy k1 a2 a3 a4 a5 a6 σ7) := by
  have hok := fh_cok C
  refine go_ob ?_
  refine go_iload_n C 1 rfl rfl dX5_copy_0 ?_
  refine go_callSI C (st := []) [.int a2] (m_X5_isSheet E _ hok a2 σ7) rfl ⟨q_1065, q_1066, q_6, q_1067⟩ pd_X5_isSheet rfl ⟨⟨Nat.le_of_ble_eq_true rfl, Nat.le_of_ble_eq_true rfl⟩, rfl, rfl⟩ (Nat.le_of_ble_eq_true rfl) dX5_copy_1 (fun r9 σ8 => ?_)
  refine go_jn (fun (j13 : fh_S → Option (Int32 × fh_S)) => ∀ (σ10 : fh_S), fh_Go E M 7 fh_vI 14 [(0, .ref (fh_ad E k1))] [] σ10 (j13 σ10)) ?_ (fun j13 hj13 => ?_)
  · intro σ10
    refine go_aload_n C 0 rfl rfl dX5_copy_14 ?_
    refine go_ldc C q_820 dX5_copy_15 ?_
    refine go_callVI C (st := []) [.int ((-1000001 : Int32))] (m_X5_finding E _ hok k1 ((-1000001 : Int32)) σ10) (fun _ h => fh_ob_ok h) rfl rfl ⟨q_821, q_823, qs_19, q_6, q_824⟩ pd_X5_finding rfl ⟨⟨Nat.le_of_ble_eq_true rfl, Nat.le_of_ble_eq_true rfl⟩, rfl, rfl⟩ (Nat.le_of_ble_eq_true rfl) dX5_copy_17 (fun r12 σ11 => ?_)
    exact go_iret C Hr rfl dX5_copy_20
  refine go_if_eq (tgt := 14) C dX5_copy_4 rfl (fun _ => ?_) (fun _ => ?_)
  · refine go_lv [0] (lv' := [(0, .ref (fh_ad E k1))]) rfl ?_
    exact hj13 σ8
  · refine go_iload_n C 3 rfl rfl dX5_copy_7 ?_
    refine go_callSI C (st := []) [.int a4] (m_X5_isSheet E _ hok a4 σ8) rfl ⟨q_1065, q_1066, q_6, q_1067⟩ pd_X5_isSheet rfl ⟨⟨Nat.le_of_ble_eq_true rfl, Nat.le_of_ble_eq_true rfl⟩, rfl, rfl⟩ (Nat.le_of_ble_eq_true rfl) dX5_copy_8 (fun r15 σ14 => ?_)
    refine go_if_ne (tgt := 21) C dX5_copy_11 rfl (fun _ => ?_) (fun _ => ?_)
    · refine go_aload_n C 0 rfl rfl dX5_copy_21 ?_
      refine go_gr (ci := 5) (j := 17) C fh_in5 rfl (by decide) rfl q_763 dX5_copy_22 (fun k16 => ?_)
      refine go_iload_n C 1 rfl rfl dX5_copy_25 ?_
      refine go_iald C dX5_copy_26 (fun v17 => ?_)
      refine go_jn (fun (j21 : fh_S → Option (Int32 × fh_S)) => ∀ (σ18 : fh_S), fh_Go E M 7 fh_vI 39 [(0, .ref (fh_ad E k1))] [] σ18 (j21 σ18)) ?_ (fun j21 hj21 => ?_)
      · intro σ18
        refine go_aload_n C 0 rfl rfl dX5_copy_39 ?_
        refine go_ldc C q_1068 dX5_copy_40 ?_
        refine go_callVI C (st := []) [.int ((-1000006 : Int32))] (m_X5_finding E _ hok k1 ((-1000006 : Int32)) σ18) (fun _ h => fh_ob_ok h) rfl rfl ⟨q_821, q_823, qs_19, q_6, q_824⟩ pd_X5_finding rfl ⟨⟨Nat.le_of_ble_eq_true rfl, Nat.le_of_ble_eq_true rfl⟩, rfl, rfl⟩ (Nat.le_of_ble_eq_true rfl) dX5_copy_42 (fun r20 σ19 => ?_)
        exact go_iret C Hr rfl dX5_copy_45
      refine go_if_eq (tgt := 39) C dX5_copy_27 rfl (fun _ => ?_) (fun _ => ?_)
      · refine go_lv [0] (lv' := [(0, .ref (fh_ad E k1))]) rfl ?_
        exact hj21 σ14
      · refine go_aload_n C 0 rfl rfl dX5_copy_30 ?_
        refine go_gr (ci := 5) (j := 17) C fh_in5 rfl (by decide) rfl q_763 dX5_copy_31 (fun k22 => ?_)
        refine go_iload_n C 3 rfl rfl dX5_copy_34 ?_
        refine go_iald C dX5_copy_35 (fun v23 => ?_)
        refine go_if_ne (tgt := 46) C dX5_copy_36 rfl (fun _ => ?_) (fun _ => ?_)
        · refine go_aload_n C 0 rfl rfl dX5_copy_46 ?_
          refine go_gr (ci := 5) (j := 17) C fh_in5 rfl (by decide) rfl q_763 dX5_copy_47 (fun k24 => ?_)
          refine go_iload_n C 1 rfl rfl dX5_copy_50 ?_
          refine go_iald C dX5_copy_51 (fun v25 => ?_)
          refine go_aload_n C 0 rfl rfl dX5_copy_52 ?_
          refine go_gr (ci := 5) (j := 17) C fh_in5 rfl (by decide) rfl q_763 dX5_copy_53 (fun k26 => ?_)
          refine go_iload_n C 3 rfl rfl dX5_copy_56 ?_
          refine go_iald C dX5_copy_57 (fun v27 => ?_)
          refine go_icmp_eq (tgt := 69) C dX5_copy_58 rfl (fun _ => ?_) (fun _ => ?_)
          · refine go_iload_n C 2 rfl rfl dX5_copy_69 ?_
            refine go_jn (fun (j31 : fh_S → Option (Int32 × fh_S)) => ∀ (σ28 : fh_S), fh_Go E M 7 fh_vI 118 [(0, .ref (fh_ad E k1))] [] σ28 (j31 σ28)) ?_ (fun j31 hj31 => ?_)
            · intro σ28
              refine go_aload_n C 0 rfl rfl dX5_copy_118 ?_
              refine go_ldc C q_820 dX5_copy_119 ?_
              refine go_callVI C (st := []) [.int ((-1000001 : Int32))] (m_X5_finding E _ hok k1 ((-1000001 : Int32)) σ28) (fun _ h => fh_ob_ok h) rfl rfl ⟨q_821, q_823, qs_19, q_6, q_824⟩ pd_X5_finding rfl ⟨⟨Nat.le_of_ble_eq_true rfl, Nat.le_of_ble_eq_true rfl⟩, rfl, rfl⟩ (Nat.le_of_ble_eq_true rfl) dX5_copy_121 (fun r30 σ29 => ?_)
              exact go_iret C Hr rfl dX5_copy_124
            refine go_if_lt (tgt := 118) C dX5_copy_70 rfl (fun _ => ?_) (fun _ => ?_)
            · refine go_lv [0] (lv' := [(0, .ref (fh_ad E k1))]) rfl ?_
              exact hj31 σ14
            · refine go_iload C 4 rfl dX5_copy_73 ?_
              refine go_if_lt (tgt := 118) C dX5_copy_75 rfl (fun _ => ?_) (fun _ => ?_)
              · refine go_lv [0] (lv' := [(0, .ref (fh_ad E k1))]) rfl ?_
                exact hj31 σ14
              · refine go_iload C 5 rfl dX5_copy_78 ?_
                refine go_if_lt (tgt := 118) C dX5_copy_80 rfl (fun _ => ?_) (fun _ => ?_)
                · refine go_lv [0] (lv' := [(0, .ref (fh_ad E k1))]) rfl ?_
                  exact hj31 σ14
                · refine go_iload_n C 2 rfl rfl dX5_copy_83 ?_
                  refine go_i2l C dX5_copy_84 ?_
                  refine go_iload C 5 rfl dX5_copy_85 ?_
                  refine go_i2l C dX5_copy_87 ?_
                  refine go_ladd C dX5_copy_88 ?_
                  refine go_aload_n C 0 rfl rfl dX5_copy_89 ?_
                  refine go_gr (ci := 5) (j := 18) C fh_in5 rfl (by decide) rfl q_764 dX5_copy_90 (fun k32 => ?_)
                  refine go_iload_n C 1 rfl rfl dX5_copy_93 ?_
                  refine go_iald C dX5_copy_94 (fun v33 => ?_)
                  refine go_i2l C dX5_copy_95 ?_
                  refine go_lcmp C dX5_copy_96 ?_
                  refine go_if_gt (tgt := 118) C dX5_copy_97 rfl (fun _ => ?_) (fun _ => ?_)
                  · refine go_lv [0] (lv' := [(0, .ref (fh_ad E k1))]) rfl ?_
                    exact hj31 σ14
                  · refine go_iload C 4 rfl dX5_copy_100 ?_
                    refine go_i2l C dX5_copy_102 ?_
                    refine go_iload C 5 rfl dX5_copy_103 ?_
                    refine go_i2l C dX5_copy_105 ?_
                    refine go_ladd C dX5_copy_106 ?_
                    refine go_aload_n C 0 rfl rfl dX5_copy_107 ?_
                    refine go_gr (ci := 5) (j := 18) C fh_in5 rfl (by decide) rfl q_764 dX5_copy_108 (fun k34 => ?_)
                    refine go_iload_n C 3 rfl rfl dX5_copy_111 ?_
                    refine go_iald C dX5_copy_112 (fun v35 => ?_)
                    refine go_i2l C dX5_copy_113 ?_
                    refine go_lcmp C dX5_copy_114 ?_
                    refine go_if_le (tgt := 125) C dX5_copy_115 rfl (fun _ => ?_) (fun _ => ?_)
                    · refine go_iconst C (0 : Int32) dX5_copy_125 rfl ?_
                      refine go_istore C [(6, .int ((0 : Int32))), (0, .ref (fh_ad E k1)), (1, .int a2), (2, .int a3), (3, .int a4), (4, .int a5), (5, .int a6)] rfl (by decide) dX5_copy_126 ?_
                      refine go_lv [1, 2, 3, 4, 5, 6, 0] (lv' := [(0, .ref (fh_ad E k1)), (1, .int a2), (2, .int a3), (3, .int a4), (4, .int a5), (5, .int a6), (6, .int ((0 : Int32)))]) rfl ?_
                      refine go_fx (fun (r38 : Int32 → fh_S → Option (Int32 × fh_S)) => ∀ (x36 : Int32) (σ37 : fh_S), fh_Go E M 7 fh_vI 128 [(0, .ref (fh_ad E k1)), (1, .int a2), (2, .int a3), (3, .int a4), (4, .int a5), (5, .int a6), (6, .int x36)] [] σ37 (r38 x36 σ37)) ?_ ?_ fh_fu ((0 : Int32)) σ14
                      · intro x36 σ37
                        exact go_none
                      · intro r38 hr38 x36 σ37
                        refine go_iload C 6 rfl dX5_copy_128 ?_
                        refine go_iload C 5 rfl dX5_copy_130 ?_
                        refine go_icmp_ge (tgt := 162) C dX5_copy_132 rfl (fun _ => ?_) (fun _ => ?_)
                        · refine go_iconst C (0 : Int32) dX5_copy_162 rfl ?_
                          refine go_istore C [(6, .int ((0 : Int32))), (0, .ref (fh_ad E k1)), (1, .int a2), (2, .int a3), (3, .int a4), (4, .int a5), (5, .int a6)] rfl (by decide) dX5_copy_163 ?_
                          refine go_lv [1, 4, 5, 6, 0] (lv' := [(0, .ref (fh_ad E k1)), (3, .int a4), (4, .int a5), (5, .int a6), (6, .int ((0 : Int32)))]) rfl ?_
                          refine go_fx (fun (r41 : Int32 → fh_S → Option (Int32 × fh_S)) => ∀ (x39 : Int32) (σ40 : fh_S), fh_Go E M 7 fh_vI 165 [(0, .ref (fh_ad E k1)), (3, .int a4), (4, .int a5), (5, .int a6), (6, .int x39)] [] σ40 (r41 x39 σ40)) ?_ ?_ fh_fu ((0 : Int32)) σ37
                          · intro x39 σ40
                            exact go_none
                          · intro r41 hr41 x39 σ40
                            refine go_iload C 4 rfl dX5_copy_165 ?_
                            refine go_iload C 3 rfl dX5_copy_167 ?_
                            refine go_icmp_ge (tgt := 200) C dX5_copy_169 rfl (fun _ => ?_) (fun _ => ?_)
                            · refine go_iload C 3 rfl dX5_copy_200 ?_
                              exact go_iret C Hr rfl dX5_copy_202
                            · refine go_aload_n C 0 rfl rfl dX5_copy_172 ?_
                              refine go_gr (ci := 5) (j := 19) C fh_in5 rfl (by decide) rfl q_765 dX5_copy_173 (fun k42 => ?_)
                              refine go_bipush C (40 : Int32) dX5_copy_176 rfl ?_
                              refine go_iload_n C 1 rfl rfl dX5_copy_178 ?_
                              refine go_imul C dX5_copy_179 ?_
                              refine go_iload C 2 rfl dX5_copy_180 ?_
                              refine go_iadd C dX5_copy_182 ?_
                              refine go_iload C 4 rfl dX5_copy_183 ?_
                              refine go_iadd C dX5_copy_185 ?_
                              refine go_aload_n C 0 rfl rfl dX5_copy_186 ?_
                              refine go_gr (ci := 5) (j := 20) C fh_in5 rfl (by decide) rfl q_766 dX5_copy_187 (fun k43 => ?_)
                              refine go_iload C 4 rfl dX5_copy_190 ?_
                              refine go_iald C dX5_copy_192 (fun v44 => ?_)
                              refine go_iast C dX5_copy_193 (fun σ45 => ?_)
                              refine go_iinc C (x39 + 1) 4 [(6, .int (x39 + 1)), (0, .ref (fh_ad E k1)), (3, .int a4), (4, .int a5), (5, .int a6)] rfl rfl rfl (by decide) dX5_copy_194 ?_
                              refine go_goto C 165 dX5_copy_197 rfl ?_
                              refine go_lv [1, 2, 3, 4, 0] (lv' := [(0, .ref (fh_ad E k1)), (3, .int a4), (4, .int a5), (5, .int a6), (6, .int (x39 + 1))]) rfl ?_
                              exact hr41 (x39 + 1) σ45
                        · refine go_aload_n C 0 rfl rfl dX5_copy_135 ?_
                          refine go_gr (ci := 5) (j := 20) C fh_in5 rfl (by decide) rfl q_766 dX5_copy_136 (fun k46 => ?_)
                          refine go_iload C 6 rfl dX5_copy_139 ?_
                          refine go_aload_n C 0 rfl rfl dX5_copy_141 ?_
                          refine go_gr (ci := 5) (j := 19) C fh_in5 rfl (by decide) rfl q_765 dX5_copy_142 (fun k47 => ?_)
                          refine go_bipush C (40 : Int32) dX5_copy_145 rfl ?_
                          refine go_iload_n C 1 rfl rfl dX5_copy_147 ?_
                          refine go_imul C dX5_copy_148 ?_
                          refine go_iload_n C 2 rfl rfl dX5_copy_149 ?_
                          refine go_iadd C dX5_copy_150 ?_
                          refine go_iload C 6 rfl dX5_copy_151 ?_
                          refine go_iadd C dX5_copy_153 ?_
                          refine go_iald C dX5_copy_154 (fun v48 => ?_)
                          refine go_iast C dX5_copy_155 (fun σ49 => ?_)
                          refine go_iinc C (x36 + 1) 6 [(6, .int (x36 + 1)), (0, .ref (fh_ad E k1)), (1, .int a2), (2, .int a3), (3, .int a4), (4, .int a5), (5, .int a6)] rfl rfl rfl (by decide) dX5_copy_156 ?_
                          refine go_goto C 128 dX5_copy_159 rfl ?_
                          refine go_lv [1, 2, 3, 4, 5, 6, 0] (lv' := [(0, .ref (fh_ad E k1)), (1, .int a2), (2, .int a3), (3, .int a4), (4, .int a5), (5, .int a6), (6, .int (x36 + 1))]) rfl ?_
                          exact hr38 (x36 + 1) σ49
                    · refine go_lv [0] (lv' := [(0, .ref (fh_ad E k1))]) rfl ?_
                      exact hj31 σ14
          · refine go_aload_n C 0 rfl rfl dX5_copy_61 ?_
            refine go_ldcw C q_1199 dX5_copy_62 ?_
            refine go_callVI C (st := []) [.int ((-1000003 : Int32))] (m_X5_finding E _ hok k1 ((-1000003 : Int32)) σ14) (fun _ h => fh_ob_ok h) rfl rfl ⟨q_821, q_823, qs_19, q_6, q_824⟩ pd_X5_finding rfl ⟨⟨Nat.le_of_ble_eq_true rfl, Nat.le_of_ble_eq_true rfl⟩, rfl, rfl⟩ (Nat.le_of_ble_eq_true rfl) dX5_copy_65 (fun r51 σ50 => ?_)
            exact go_iret C Hr rfl dX5_copy_68
        · refine go_lv [0] (lv' := [(0, .ref (fh_ad E k1))]) rfl ?_
          exact hj21 σ14
    · refine go_lv [0] (lv' := [(0, .ref (fh_ad E k1))]) rfl ?_
      exact hj13 σ14
theorem m_X5_copy (E : fh_E) (l : Launch) (hok : fh_ok E) (k1 : Nat) (a2 : Int32) (a3 : Int32) (a4 : Int32) (a5 : Int32) (a6 : Int32) (σ7 : fh_S) : fh_Met E l yX5_copy cX5_copy 7 ((some FieldType.int)) rm_X5_copy fh_vI [.ref (fh_ad E k1), .int a2, .int a3, .int a4, .int a5, .int a6] σ7 (f_X5_copy k1 a2 a3 a4 a5 a6 σ7) := fh_met hok (by decide +kernel) (Nat.le_of_ble_eq_true rfl) (fun M _ C Hr => g_X5_copy C Hr k1 a2 a3 a4 a5 a6 σ7)
def f_X5_load_B20 (k1 : Nat) (a2 : Int32) (r8 : Int32 → fh_S → Option (Int32 × fh_S)) : Int32 → fh_S → Option (Int32 × fh_S) := fun x6 σ7 => (fh_gr 5 k1 18).bind fun k9 => (fh_ld σ7 k9 a2).bind fun v10 => if v10 ≤ x6 then some (x6, σ7) else fh_cb (f_X5_isDial k1 x6 σ7) fun r12 σ11 => if r12 = 0 then some (x6, σ11) else (fh_gr 5 k1 19).bind fun k13 => (fh_ld σ11 k13 ((((40 : Int32)) * a2) + x6)).bind fun v14 => fh_cb (f_X5_isHour v14 σ11) fun r16 σ15 => if r16 = 0 then some (x6, σ15) else (fh_gr 5 k1 0).bind fun k17 => fh_cb (f_X5_at x6 ((1 : Int32)) σ15) fun r19 σ18 => (fh_gr 5 k1 19).bind fun k20 => (fh_ld σ18 k20 ((((40 : Int32)) * a2) + x6)).bind fun v21 => (fh_st σ18 k17 r19 v21).bind fun σ22 => r8 (x6 + 1) σ22
def f_X5_load (k1 : Nat) (a2 : Int32) (σ3 : fh_S) : Option (Int32 × fh_S) := fh_ob 5 k1 (fh_cb (f_X5_lacks k1 a2 σ3) fun r5 σ4 => if r5 = 0 then fh_fx (ρ := Int32 → fh_S → Option (Int32 × fh_S)) (fun _ _ => none) (f_X5_load_B20 k1 a2) fh_fu ((0 : Int32)) σ4 else fh_cb (f_X5_lacks k1 a2 σ4) fun r24 σ23 => fh_cb (f_X5_finding k1 r24 σ23) fun r26 σ25 => some (r26, σ25))
abbrev rm_X5_load : Room := { frames := 3, cells := 0, slots := 0, locals := 63 }
theorem pd_X5_load : yX5_load.cls ≠ "java/lang/invoke/MethodHandle" ∧ yX5_load.cls ≠ "java/lang/invoke/VarHandle" ∧ (parseMethodDescriptor yX5_load.desc).map (fun d => d.parameters.length) = some 1 := by decide +kernel
theorem dX5_load_0 : decode cX5_load 0 = .ok (.aload_n 0, 1) := by decide +kernel
theorem dX5_load_1 : decode cX5_load 1 = .ok (.iload_n 1, 1) := by decide +kernel
theorem dX5_load_2 : decode cX5_load 2 = .ok (.invokevirtual 213, 3) := by decide +kernel
theorem dX5_load_5 : decode cX5_load 5 = .ok (.ifCond .eq 13, 3) := by decide +kernel
theorem dX5_load_8 : decode cX5_load 8 = .ok (.aload_n 0, 1) := by decide +kernel
theorem dX5_load_9 : decode cX5_load 9 = .ok (.aload_n 0, 1) := by decide +kernel
theorem dX5_load_10 : decode cX5_load 10 = .ok (.iload_n 1, 1) := by decide +kernel
theorem dX5_load_11 : decode cX5_load 11 = .ok (.invokevirtual 213, 3) := by decide +kernel
theorem dX5_load_14 : decode cX5_load 14 = .ok (.invokevirtual 69, 3) := by decide +kernel
theorem dX5_load_17 : decode cX5_load 17 = .ok (.ireturn, 1) := by decide +kernel
theorem dX5_load_18 : decode cX5_load 18 = .ok (.iconst 0, 1) := by decide +kernel
theorem dX5_load_19 : decode cX5_load 19 = .ok (.istore_n 2, 1) := by decide +kernel
theorem dX5_load_20 : decode cX5_load 20 = .ok (.iload_n 2, 1) := by decide +kernel
theorem dX5_load_21 : decode cX5_load 21 = .ok (.aload_n 0, 1) := by decide +kernel
theorem dX5_load_22 : decode cX5_load 22 = .ok (.getfield 54, 3) := by decide +kernel
theorem dX5_load_25 : decode cX5_load 25 = .ok (.iload_n 1, 1) := by decide +kernel
theorem dX5_load_26 : decode cX5_load 26 = .ok (.iaload, 1) := by decide +kernel
theorem dX5_load_27 : decode cX5_load 27 = .ok (.if_icmp .ge 55, 3) := by decide +kernel
theorem dX5_load_30 : decode cX5_load 30 = .ok (.aload_n 0, 1) := by decide +kernel
theorem dX5_load_31 : decode cX5_load 31 = .ok (.iload_n 2, 1) := by decide +kernel
theorem dX5_load_32 : decode cX5_load 32 = .ok (.invokevirtual 112, 3) := by decide +kernel
theorem dX5_load_35 : decode cX5_load 35 = .ok (.ifCond .eq 47, 3) := by decide +kernel
theorem dX5_load_38 : decode cX5_load 38 = .ok (.aload_n 0, 1) := by decide +kernel
theorem dX5_load_39 : decode cX5_load 39 = .ok (.getfield 57, 3) := by decide +kernel
theorem dX5_load_42 : decode cX5_load 42 = .ok (.bipush 40, 2) := by decide +kernel
theorem dX5_load_44 : decode cX5_load 44 = .ok (.iload_n 1, 1) := by decide +kernel
theorem dX5_load_45 : decode cX5_load 45 = .ok (.imul, 1) := by decide +kernel
theorem dX5_load_46 : decode cX5_load 46 = .ok (.iload_n 2, 1) := by decide +kernel
theorem dX5_load_47 : decode cX5_load 47 = .ok (.iadd, 1) := by decide +kernel
theorem dX5_load_48 : decode cX5_load 48 = .ok (.iaload, 1) := by decide +kernel
theorem dX5_load_49 : decode cX5_load 49 = .ok (.invokestatic 118, 3) := by decide +kernel
theorem dX5_load_52 : decode cX5_load 52 = .ok (.ifCond .eq 30, 3) := by decide +kernel
theorem dX5_load_55 : decode cX5_load 55 = .ok (.aload_n 0, 1) := by decide +kernel
theorem dX5_load_56 : decode cX5_load 56 = .ok (.getfield 9, 3) := by decide +kernel
theorem dX5_load_59 : decode cX5_load 59 = .ok (.iload_n 2, 1) := by decide +kernel
theorem dX5_load_60 : decode cX5_load 60 = .ok (.iconst 1, 1) := by decide +kernel
theorem dX5_load_61 : decode cX5_load 61 = .ok (.invokestatic 77, 3) := by decide +kernel
theorem dX5_load_64 : decode cX5_load 64 = .ok (.aload_n 0, 1) := by decide +kernel
theorem dX5_load_65 : decode cX5_load 65 = .ok (.getfield 57, 3) := by decide +kernel
theorem dX5_load_68 : decode cX5_load 68 = .ok (.bipush 40, 2) := by decide +kernel
theorem dX5_load_70 : decode cX5_load 70 = .ok (.iload_n 1, 1) := by decide +kernel
theorem dX5_load_71 : decode cX5_load 71 = .ok (.imul, 1) := by decide +kernel
theorem dX5_load_72 : decode cX5_load 72 = .ok (.iload_n 2, 1) := by decide +kernel
theorem dX5_load_73 : decode cX5_load 73 = .ok (.iadd, 1) := by decide +kernel
theorem dX5_load_74 : decode cX5_load 74 = .ok (.iaload, 1) := by decide +kernel
theorem dX5_load_75 : decode cX5_load 75 = .ok (.iastore, 1) := by decide +kernel
theorem dX5_load_76 : decode cX5_load 76 = .ok (.iinc 2 1, 3) := by decide +kernel
theorem dX5_load_79 : decode cX5_load 79 = .ok (.goto (-59), 3) := by decide +kernel
theorem dX5_load_82 : decode cX5_load 82 = .ok (.iload_n 2, 1) := by decide +kernel
theorem dX5_load_83 : decode cX5_load 83 = .ok (.ireturn, 1) := by decide +kernel
set_option maxHeartbeats 4000000 in
set_option maxRecDepth 100000 in
theorem g_X5_load {E : fh_E} {M : fh_M} (C : fh_Cx E M cX5_load 3 RX5 ((some FieldType.int)) rm_X5_load) (Hr : fh_Rt E M) (k1 : Nat) (a2 : Int32) (σ3 : fh_S) : fh_Go E M 3 fh_vI 0 [(0, .ref (fh_ad E k1)), (1, .int a2)] [] σ3 (f_X5_load k1 a2 σ3) := by
  have hok := fh_cok C
  refine go_ob ?_
  refine go_aload_n C 0 rfl rfl dX5_load_0 ?_
  refine go_iload_n C 1 rfl rfl dX5_load_1 ?_
  refine go_callVI C (st := []) [.int a2] (m_X5_lacks E _ hok k1 a2 σ3) (fun _ h => fh_ob_ok h) rfl rfl ⟨q_1061, q_1063, qs_48, q_6, q_1064⟩ pd_X5_lacks rfl ⟨⟨Nat.le_of_ble_eq_true rfl, Nat.le_of_ble_eq_true rfl⟩, rfl, rfl⟩ (Nat.le_of_ble_eq_true rfl) dX5_load_2 (fun r5 σ4 => ?_)
  refine go_if_eq (tgt := 18) C dX5_load_5 rfl (fun _ => ?_) (fun _ => ?_)
  · refine go_iconst C (0 : Int32) dX5_load_18 rfl ?_
    refine go_istore_n C [(2, .int ((0 : Int32))), (0, .ref (fh_ad E k1)), (1, .int a2)] rfl rfl (by decide) dX5_load_19 ?_
    refine go_lv [1, 2, 0] (lv' := [(0, .ref (fh_ad E k1)), (1, .int a2), (2, .int ((0 : Int32)))]) rfl ?_
    refine go_fx (fun (r8 : Int32 → fh_S → Option (Int32 × fh_S)) => ∀ (x6 : Int32) (σ7 : fh_S), fh_Go E M 3 fh_vI 20 [(0, .ref (fh_ad E k1)), (1, .int a2), (2, .int x6)] [] σ7 (r8 x6 σ7)) ?_ ?_ fh_fu ((0 : Int32)) σ4
    · intro x6 σ7
      exact go_none
    · intro r8 hr8 x6 σ7
      refine go_iload_n C 2 rfl rfl dX5_load_20 ?_
      refine go_aload_n C 0 rfl rfl dX5_load_21 ?_
      refine go_gr (ci := 5) (j := 18) C fh_in5 rfl (by decide) rfl q_764 dX5_load_22 (fun k9 => ?_)
      refine go_iload_n C 1 rfl rfl dX5_load_25 ?_
      refine go_iald C dX5_load_26 (fun v10 => ?_)
      refine go_icmp_ge (tgt := 82) C dX5_load_27 rfl (fun _ => ?_) (fun _ => ?_)
      · refine go_iload_n C 2 rfl rfl dX5_load_82 ?_
        exact go_iret C Hr rfl dX5_load_83
      · refine go_aload_n C 0 rfl rfl dX5_load_30 ?_
        refine go_iload_n C 2 rfl rfl dX5_load_31 ?_
        refine go_callVI C (st := []) [.int x6] (m_X5_isDial E _ hok k1 x6 σ7) (fun _ h => fh_ob_ok h) rfl rfl ⟨q_837, q_839, qs_21, q_6, q_840⟩ pd_X5_isDial rfl ⟨⟨Nat.le_of_ble_eq_true rfl, Nat.le_of_ble_eq_true rfl⟩, rfl, rfl⟩ (Nat.le_of_ble_eq_true rfl) dX5_load_32 (fun r12 σ11 => ?_)
        refine go_if_eq (tgt := 82) C dX5_load_35 rfl (fun _ => ?_) (fun _ => ?_)
        · refine go_iload_n C 2 rfl rfl dX5_load_82 ?_
          exact go_iret C Hr rfl dX5_load_83
        · refine go_aload_n C 0 rfl rfl dX5_load_38 ?_
          refine go_gr (ci := 5) (j := 19) C fh_in5 rfl (by decide) rfl q_765 dX5_load_39 (fun k13 => ?_)
          refine go_bipush C (40 : Int32) dX5_load_42 rfl ?_
          refine go_iload_n C 1 rfl rfl dX5_load_44 ?_
          refine go_imul C dX5_load_45 ?_
          refine go_iload_n C 2 rfl rfl dX5_load_46 ?_
          refine go_iadd C dX5_load_47 ?_
          refine go_iald C dX5_load_48 (fun v14 => ?_)
          refine go_callSI C (st := []) [.int v14] (m_X5_isHour E _ hok v14 σ11) rfl ⟨q_870, q_871, q_6, q_872⟩ pd_X5_isHour rfl ⟨⟨Nat.le_of_ble_eq_true rfl, Nat.le_of_ble_eq_true rfl⟩, rfl, rfl⟩ (Nat.le_of_ble_eq_true rfl) dX5_load_49 (fun r16 σ15 => ?_)
          refine go_if_eq (tgt := 82) C dX5_load_52 rfl (fun _ => ?_) (fun _ => ?_)
          · refine go_iload_n C 2 rfl rfl dX5_load_82 ?_
            exact go_iret C Hr rfl dX5_load_83
          · refine go_aload_n C 0 rfl rfl dX5_load_55 ?_
            refine go_gr (ci := 5) (j := 0) C fh_in5 rfl (by decide) rfl q_746 dX5_load_56 (fun k17 => ?_)
            refine go_iload_n C 2 rfl rfl dX5_load_59 ?_
            refine go_iconst C (1 : Int32) dX5_load_60 rfl ?_
            refine go_callSI C (st := [.ref (fh_ad E k17)]) [.int x6, .int ((1 : Int32))] (m_X5_at E _ hok x6 ((1 : Int32)) σ15) rfl ⟨q_830, q_831, q_6, q_832⟩ pd_X5_at rfl ⟨⟨Nat.le_of_ble_eq_true rfl, Nat.le_of_ble_eq_true rfl⟩, rfl, rfl⟩ (Nat.le_of_ble_eq_true rfl) dX5_load_61 (fun r19 σ18 => ?_)
            refine go_aload_n C 0 rfl rfl dX5_load_64 ?_
            refine go_gr (ci := 5) (j := 19) C fh_in5 rfl (by decide) rfl q_765 dX5_load_65 (fun k20 => ?_)
            refine go_bipush C (40 : Int32) dX5_load_68 rfl ?_
            refine go_iload_n C 1 rfl rfl dX5_load_70 ?_
            refine go_imul C dX5_load_71 ?_
            refine go_iload_n C 2 rfl rfl dX5_load_72 ?_
            refine go_iadd C dX5_load_73 ?_
            refine go_iald C dX5_load_74 (fun v21 => ?_)
            refine go_iast C dX5_load_75 (fun σ22 => ?_)
            refine go_iinc C (x6 + 1) 2 [(2, .int (x6 + 1)), (0, .ref (fh_ad E k1)), (1, .int a2)] rfl rfl rfl (by decide) dX5_load_76 ?_
            refine go_goto C 20 dX5_load_79 rfl ?_
            refine go_lv [1, 2, 0] (lv' := [(0, .ref (fh_ad E k1)), (1, .int a2), (2, .int (x6 + 1))]) rfl ?_
            exact hr8 (x6 + 1) σ22
  · refine go_aload_n C 0 rfl rfl dX5_load_8 ?_
    refine go_aload_n C 0 rfl rfl dX5_load_9 ?_
    refine go_iload_n C 1 rfl rfl dX5_load_10 ?_
    refine go_callVI C (st := [.ref (fh_ad E k1)]) [.int a2] (m_X5_lacks E _ hok k1 a2 σ4) (fun _ h => fh_ob_ok h) rfl rfl ⟨q_1061, q_1063, qs_48, q_6, q_1064⟩ pd_X5_lacks rfl ⟨⟨Nat.le_of_ble_eq_true rfl, Nat.le_of_ble_eq_true rfl⟩, rfl, rfl⟩ (Nat.le_of_ble_eq_true rfl) dX5_load_11 (fun r24 σ23 => ?_)
    refine go_callVI C (st := []) [.int r24] (m_X5_finding E _ hok k1 r24 σ23) (fun _ h => fh_ob_ok h) rfl rfl ⟨q_821, q_823, qs_19, q_6, q_824⟩ pd_X5_finding rfl ⟨⟨Nat.le_of_ble_eq_true rfl, Nat.le_of_ble_eq_true rfl⟩, rfl, rfl⟩ (Nat.le_of_ble_eq_true rfl) dX5_load_14 (fun r26 σ25 => ?_)
    exact go_iret C Hr rfl dX5_load_17
theorem m_X5_load (E : fh_E) (l : Launch) (hok : fh_ok E) (k1 : Nat) (a2 : Int32) (σ3 : fh_S) : fh_Met E l yX5_load cX5_load 3 ((some FieldType.int)) rm_X5_load fh_vI [.ref (fh_ad E k1), .int a2] σ3 (f_X5_load k1 a2 σ3) := fh_met hok (by decide +kernel) (Nat.le_of_ble_eq_true rfl) (fun M _ C Hr => g_X5_load C Hr k1 a2 σ3)
def f_X5_judge_J106 (x7 : Int32) (x6 : Int32) : fh_S → Option (Int32 × fh_S) := fun σ12 => if x7 = 0 then some (((1 : Int32)) + x6, σ12) else some ((0 : Int32), σ12)
def f_X5_judge_J101 (r9 : Int32 → Int32 → fh_S → Option (Int32 × fh_S)) (x6 : Int32) (x18 : Int32) : Int32 → fh_S → Option (Int32 × fh_S) := fun x20 σ21 => r9 (x6 + x20) x18 σ21
def f_X5_judge_J90 (r9 : Int32 → Int32 → fh_S → Option (Int32 × fh_S)) (x6 : Int32) : Int32 → fh_S → Option (Int32 × fh_S) := fun x18 σ19 => fh_jn (f_X5_judge_J101 r9 x6 x18) (fun j22 => if x18 = 0 then j22 ((0 : Int32)) σ19 else j22 ((1 : Int32)) σ19)
def f_X5_judge_J89 (j23 : Int32 → fh_S → Option (Int32 × fh_S)) : fh_S → Option (Int32 × fh_S) := fun σ24 => j23 ((0 : Int32)) σ24
def f_X5_judge_J85 (j23 : Int32 → fh_S → Option (Int32 × fh_S)) : fh_S → Option (Int32 × fh_S) := fun σ26 => j23 ((1 : Int32)) σ26
def f_X5_judge_B22 (k1 : Nat) (a2 : Int32) (r9 : Int32 → Int32 → fh_S → Option (Int32 × fh_S)) : Int32 → Int32 → fh_S → Option (Int32 × fh_S) := fun x6 x7 σ8 => (fh_gr 5 k1 18).bind fun k10 => (fh_ld σ8 k10 a2).bind fun v11 => fh_jn (f_X5_judge_J106 x7 x6) (fun j13 => if v11 ≤ x6 then j13 σ8 else if x7 = 0 then j13 σ8 else (fh_gr 5 k1 19).bind fun k14 => (fh_ld σ8 k14 ((((40 : Int32)) * a2) + x6)).bind fun v15 => fh_cb (f_X5_isDial k1 v15 σ8) fun r17 σ16 => fh_jn (f_X5_judge_J90 r9 x6) (fun j23 => fh_jn (f_X5_judge_J89 j23) (fun j25 => if r17 = 0 then j25 σ16 else fh_jn (f_X5_judge_J85 j23) (fun j27 => if x6 = 0 then j27 σ16 else (fh_gr 5 k1 19).bind fun k28 => (fh_ld σ16 k28 (((((40 : Int32)) * a2) + x6) - ((1 : Int32)))).bind fun v29 => fh_cb (f_X5_dialIs k1 v29 ((2 : Int32)) σ16) fun r31 σ30 => if r31 = v15 then j27 σ30 else j25 σ30))))
def f_X5_judge (k1 : Nat) (a2 : Int32) (σ3 : fh_S) : Option (Int32 × fh_S) := fh_ob 5 k1 (fh_cb (f_X5_lacks k1 a2 σ3) fun r5 σ4 => if r5 = 0 then fh_fx (ρ := Int32 → Int32 → fh_S → Option (Int32 × fh_S)) (fun _ _ _ => none) (f_X5_judge_B22 k1 a2) fh_fu ((0 : Int32)) ((1 : Int32)) σ4 else fh_cb (f_X5_lacks k1 a2 σ4) fun r33 σ32 => fh_cb (f_X5_finding k1 r33 σ32) fun r35 σ34 => some (r35, σ34))
abbrev rm_X5_judge : Room := { frames := 3, cells := 0, slots := 0, locals := 63 }
theorem pd_X5_judge : yX5_judge.cls ≠ "java/lang/invoke/MethodHandle" ∧ yX5_judge.cls ≠ "java/lang/invoke/VarHandle" ∧ (parseMethodDescriptor yX5_judge.desc).map (fun d => d.parameters.length) = some 1 := by decide +kernel
theorem dX5_judge_0 : decode cX5_judge 0 = .ok (.aload_n 0, 1) := by decide +kernel
theorem dX5_judge_1 : decode cX5_judge 1 = .ok (.iload_n 1, 1) := by decide +kernel
theorem dX5_judge_2 : decode cX5_judge 2 = .ok (.invokevirtual 213, 3) := by decide +kernel
theorem dX5_judge_5 : decode cX5_judge 5 = .ok (.ifCond .eq 13, 3) := by decide +kernel
theorem dX5_judge_8 : decode cX5_judge 8 = .ok (.aload_n 0, 1) := by decide +kernel
theorem dX5_judge_9 : decode cX5_judge 9 = .ok (.aload_n 0, 1) := by decide +kernel
theorem dX5_judge_10 : decode cX5_judge 10 = .ok (.iload_n 1, 1) := by decide +kernel
theorem dX5_judge_11 : decode cX5_judge 11 = .ok (.invokevirtual 213, 3) := by decide +kernel
theorem dX5_judge_14 : decode cX5_judge 14 = .ok (.invokevirtual 69, 3) := by decide +kernel
theorem dX5_judge_17 : decode cX5_judge 17 = .ok (.ireturn, 1) := by decide +kernel
theorem dX5_judge_18 : decode cX5_judge 18 = .ok (.iconst 0, 1) := by decide +kernel
theorem dX5_judge_19 : decode cX5_judge 19 = .ok (.istore_n 2, 1) := by decide +kernel
theorem dX5_judge_20 : decode cX5_judge 20 = .ok (.iconst 1, 1) := by decide +kernel
theorem dX5_judge_21 : decode cX5_judge 21 = .ok (.istore_n 3, 1) := by decide +kernel
theorem dX5_judge_22 : decode cX5_judge 22 = .ok (.iload_n 2, 1) := by decide +kernel
theorem dX5_judge_23 : decode cX5_judge 23 = .ok (.aload_n 0, 1) := by decide +kernel
theorem dX5_judge_24 : decode cX5_judge 24 = .ok (.getfield 54, 3) := by decide +kernel
theorem dX5_judge_27 : decode cX5_judge 27 = .ok (.iload_n 1, 1) := by decide +kernel
theorem dX5_judge_28 : decode cX5_judge 28 = .ok (.iaload, 1) := by decide +kernel
theorem dX5_judge_29 : decode cX5_judge 29 = .ok (.if_icmp .ge 77, 3) := by decide +kernel
theorem dX5_judge_32 : decode cX5_judge 32 = .ok (.iload_n 3, 1) := by decide +kernel
theorem dX5_judge_33 : decode cX5_judge 33 = .ok (.ifCond .eq 73, 3) := by decide +kernel
theorem dX5_judge_36 : decode cX5_judge 36 = .ok (.aload_n 0, 1) := by decide +kernel
theorem dX5_judge_37 : decode cX5_judge 37 = .ok (.getfield 57, 3) := by decide +kernel
theorem dX5_judge_40 : decode cX5_judge 40 = .ok (.bipush 40, 2) := by decide +kernel
theorem dX5_judge_42 : decode cX5_judge 42 = .ok (.iload_n 1, 1) := by decide +kernel
theorem dX5_judge_43 : decode cX5_judge 43 = .ok (.imul, 1) := by decide +kernel
theorem dX5_judge_44 : decode cX5_judge 44 = .ok (.iload_n 2, 1) := by decide +kernel
theorem dX5_judge_45 : decode cX5_judge 45 = .ok (.iadd, 1) := by decide +kernel
theorem dX5_judge_46 : decode cX5_judge 46 = .ok (.iaload, 1) := by decide +kernel
theorem dX5_judge_47 : decode cX5_judge 47 = .ok (.istore 4, 2) := by decide +kernel
theorem dX5_judge_49 : decode cX5_judge 49 = .ok (.aload_n 0, 1) := by decide +kernel
theorem dX5_judge_50 : decode cX5_judge 50 = .ok (.iload 4, 2) := by decide +kernel
theorem dX5_judge_52 : decode cX5_judge 52 = .ok (.invokevirtual 112, 3) := by decide +kernel
theorem dX5_judge_55 : decode cX5_judge 55 = .ok (.ifCond .eq 34, 3) := by decide +kernel
theorem dX5_judge_58 : decode cX5_judge 58 = .ok (.iload_n 2, 1) := by decide +kernel
theorem dX5_judge_59 : decode cX5_judge 59 = .ok (.ifCond .eq 26, 3) := by decide +kernel
theorem dX5_judge_62 : decode cX5_judge 62 = .ok (.aload_n 0, 1) := by decide +kernel
theorem dX5_judge_63 : decode cX5_judge 63 = .ok (.aload_n 0, 1) := by decide +kernel
theorem dX5_judge_64 : decode cX5_judge 64 = .ok (.getfield 57, 3) := by decide +kernel
theorem dX5_judge_67 : decode cX5_judge 67 = .ok (.bipush 40, 2) := by decide +kernel
theorem dX5_judge_69 : decode cX5_judge 69 = .ok (.iload_n 1, 1) := by decide +kernel
theorem dX5_judge_70 : decode cX5_judge 70 = .ok (.imul, 1) := by decide +kernel
theorem dX5_judge_71 : decode cX5_judge 71 = .ok (.iload_n 2, 1) := by decide +kernel
theorem dX5_judge_72 : decode cX5_judge 72 = .ok (.iadd, 1) := by decide +kernel
theorem dX5_judge_73 : decode cX5_judge 73 = .ok (.iconst 1, 1) := by decide +kernel
theorem dX5_judge_74 : decode cX5_judge 74 = .ok (.isub, 1) := by decide +kernel
theorem dX5_judge_75 : decode cX5_judge 75 = .ok (.iaload, 1) := by decide +kernel
theorem dX5_judge_76 : decode cX5_judge 76 = .ok (.iconst 2, 1) := by decide +kernel
theorem dX5_judge_77 : decode cX5_judge 77 = .ok (.invokevirtual 81, 3) := by decide +kernel
theorem dX5_judge_80 : decode cX5_judge 80 = .ok (.iload 4, 2) := by decide +kernel
theorem dX5_judge_82 : decode cX5_judge 82 = .ok (.if_icmp .ne 7, 3) := by decide +kernel
theorem dX5_judge_85 : decode cX5_judge 85 = .ok (.iconst 1, 1) := by decide +kernel
theorem dX5_judge_86 : decode cX5_judge 86 = .ok (.goto 4, 3) := by decide +kernel
theorem dX5_judge_89 : decode cX5_judge 89 = .ok (.iconst 0, 1) := by decide +kernel
theorem dX5_judge_90 : decode cX5_judge 90 = .ok (.istore_n 3, 1) := by decide +kernel
theorem dX5_judge_91 : decode cX5_judge 91 = .ok (.iload_n 2, 1) := by decide +kernel
theorem dX5_judge_92 : decode cX5_judge 92 = .ok (.iload_n 3, 1) := by decide +kernel
theorem dX5_judge_93 : decode cX5_judge 93 = .ok (.ifCond .eq 7, 3) := by decide +kernel
theorem dX5_judge_96 : decode cX5_judge 96 = .ok (.iconst 1, 1) := by decide +kernel
theorem dX5_judge_97 : decode cX5_judge 97 = .ok (.goto 4, 3) := by decide +kernel
theorem dX5_judge_100 : decode cX5_judge 100 = .ok (.iconst 0, 1) := by decide +kernel
theorem dX5_judge_101 : decode cX5_judge 101 = .ok (.iadd, 1) := by decide +kernel
theorem dX5_judge_102 : decode cX5_judge 102 = .ok (.istore_n 2, 1) := by decide +kernel
theorem dX5_judge_103 : decode cX5_judge 103 = .ok (.goto (-81), 3) := by decide +kernel
theorem dX5_judge_106 : decode cX5_judge 106 = .ok (.iload_n 3, 1) := by decide +kernel
theorem dX5_judge_107 : decode cX5_judge 107 = .ok (.ifCond .eq 7, 3) := by decide +kernel
theorem dX5_judge_110 : decode cX5_judge 110 = .ok (.iconst 0, 1) := by decide +kernel
theorem dX5_judge_111 : decode cX5_judge 111 = .ok (.goto 6, 3) := by decide +kernel
theorem dX5_judge_114 : decode cX5_judge 114 = .ok (.iconst 1, 1) := by decide +kernel
theorem dX5_judge_115 : decode cX5_judge 115 = .ok (.iload_n 2, 1) := by decide +kernel
theorem dX5_judge_116 : decode cX5_judge 116 = .ok (.iadd, 1) := by decide +kernel
theorem dX5_judge_117 : decode cX5_judge 117 = .ok (.ireturn, 1) := by decide +kernel
set_option maxHeartbeats 4000000 in
set_option maxRecDepth 100000 in
theorem g_X5_judge {E : fh_E} {M : fh_M} (C : fh_Cx E M cX5_judge 5 RX5 ((some FieldType.int)) rm_X5_judge) (Hr : fh_Rt E M) (k1 : Nat) (a2 : Int32) (σ3 : fh_S) : fh_Go E M 5 fh_vI 0 [(0, .ref (fh_ad E k1)), (1, .int a2)] [] σ3 (f_X5_judge k1 a2 σ3) := by
  have hok := fh_cok C
  refine go_ob ?_
  refine go_aload_n C 0 rfl rfl dX5_judge_0 ?_
  refine go_iload_n C 1 rfl rfl dX5_judge_1 ?_
  refine go_callVI C (st := []) [.int a2] (m_X5_lacks E _ hok k1 a2 σ3) (fun _ h => fh_ob_ok h) rfl rfl ⟨q_1061, q_1063, qs_48, q_6, q_1064⟩ pd_X5_lacks rfl ⟨⟨Nat.le_of_ble_eq_true rfl, Nat.le_of_ble_eq_true rfl⟩, rfl, rfl⟩ (Nat.le_of_ble_eq_true rfl) dX5_judge_2 (fun r5 σ4 => ?_)
  refine go_if_eq (tgt := 18) C dX5_judge_5 rfl (fun _ => ?_) (fun _ => ?_)
  · refine go_iconst C (0 : Int32) dX5_judge_18 rfl ?_
    refine go_istore_n C [(2, .int ((0 : Int32))), (0, .ref (fh_ad E k1)), (1, .int a2)] rfl rfl (by decide) dX5_judge_19 ?_
    refine go_iconst C (1 : Int32) dX5_judge_20 rfl ?_
    refine go_istore_n C [(3, .int ((1 : Int32))), (2, .int ((0 : Int32))), (0, .ref (fh_ad E k1)), (1, .int a2)] rfl rfl (by decide) dX5_judge_21 ?_
    refine go_lv [2, 3, 1, 0] (lv' := [(0, .ref (fh_ad E k1)), (1, .int a2), (2, .int ((0 : Int32))), (3, .int ((1 : Int32)))]) rfl ?_
    refine go_fx (fun (r9 : Int32 → Int32 → fh_S → Option (Int32 × fh_S)) => ∀ (x6 : Int32) (x7 : Int32) (σ8 : fh_S), fh_Go E M 5 fh_vI 22 [(0, .ref (fh_ad E k1)), (1, .int a2), (2, .int x6), (3, .int x7)] [] σ8 (r9 x6 x7 σ8)) ?_ ?_ fh_fu ((0 : Int32)) ((1 : Int32)) σ4
    · intro x6 x7 σ8
      exact go_none
    · intro r9 hr9 x6 x7 σ8
      refine go_iload_n C 2 rfl rfl dX5_judge_22 ?_
      refine go_aload_n C 0 rfl rfl dX5_judge_23 ?_
      refine go_gr (ci := 5) (j := 18) C fh_in5 rfl (by decide) rfl q_764 dX5_judge_24 (fun k10 => ?_)
      refine go_iload_n C 1 rfl rfl dX5_judge_27 ?_
      refine go_iald C dX5_judge_28 (fun v11 => ?_)
      refine go_jn (fun (j13 : fh_S → Option (Int32 × fh_S)) => ∀ (σ12 : fh_S), fh_Go E M 5 fh_vI 106 [(2, .int x6), (3, .int x7)] [] σ12 (j13 σ12)) ?_ (fun j13 hj13 => ?_)
      · intro σ12
        refine go_iload_n C 1 rfl rfl dX5_judge_106 ?_
        refine go_if_eq (tgt := 114) C dX5_judge_107 rfl (fun _ => ?_) (fun _ => ?_)
        · refine go_iconst C (1 : Int32) dX5_judge_114 rfl ?_
          refine go_iload_n C 0 rfl rfl dX5_judge_115 ?_
          refine go_iadd C dX5_judge_116 ?_
          exact go_iret C Hr rfl dX5_judge_117
        · refine go_iconst C (0 : Int32) dX5_judge_110 rfl ?_
          refine go_goto C 117 dX5_judge_111 rfl ?_
          exact go_iret C Hr rfl dX5_judge_117
      refine go_icmp_ge (tgt := 106) C dX5_judge_29 rfl (fun _ => ?_) (fun _ => ?_)
      · refine go_lv [2, 3] (lv' := [(2, .int x6), (3, .int x7)]) rfl ?_
        exact hj13 σ8
      · refine go_iload_n C 3 rfl rfl dX5_judge_32 ?_
        refine go_if_eq (tgt := 106) C dX5_judge_33 rfl (fun _ => ?_) (fun _ => ?_)
        · refine go_lv [2, 3] (lv' := [(2, .int x6), (3, .int x7)]) rfl ?_
          exact hj13 σ8
        · refine go_aload_n C 0 rfl rfl dX5_judge_36 ?_
          refine go_gr (ci := 5) (j := 19) C fh_in5 rfl (by decide) rfl q_765 dX5_judge_37 (fun k14 => ?_)
          refine go_bipush C (40 : Int32) dX5_judge_40 rfl ?_
          refine go_iload_n C 1 rfl rfl dX5_judge_42 ?_
          refine go_imul C dX5_judge_43 ?_
          refine go_iload_n C 2 rfl rfl dX5_judge_44 ?_
          refine go_iadd C dX5_judge_45 ?_
          refine go_iald C dX5_judge_46 (fun v15 => ?_)
          refine go_istore C [(4, .int v15), (0, .ref (fh_ad E k1)), (1, .int a2), (2, .int x6), (3, .int x7)] rfl (by decide) dX5_judge_47 ?_
          refine go_aload_n C 1 rfl rfl dX5_judge_49 ?_
          refine go_iload C 0 rfl dX5_judge_50 ?_
          refine go_callVI C (st := []) [.int v15] (m_X5_isDial E _ hok k1 v15 σ8) (fun _ h => fh_ob_ok h) rfl rfl ⟨q_837, q_839, qs_21, q_6, q_840⟩ pd_X5_isDial rfl ⟨⟨Nat.le_of_ble_eq_true rfl, Nat.le_of_ble_eq_true rfl⟩, rfl, rfl⟩ (Nat.le_of_ble_eq_true rfl) dX5_judge_52 (fun r17 σ16 => ?_)
          refine go_jn (fun (j23 : Int32 → fh_S → Option (Int32 × fh_S)) => ∀ (x18 : Int32) (σ19 : fh_S), fh_Go E M 5 fh_vI 90 [(0, .ref (fh_ad E k1)), (1, .int a2), (2, .int x6)] [.int x18] σ19 (j23 x18 σ19)) ?_ (fun j23 hj23 => ?_)
          · intro x18 σ19
            refine go_istore_n C [(3, .int x18), (0, .ref (fh_ad E k1)), (1, .int a2), (2, .int x6)] rfl rfl (by decide) dX5_judge_90 ?_
            refine go_iload_n C 3 rfl rfl dX5_judge_91 ?_
            refine go_iload_n C 0 rfl rfl dX5_judge_92 ?_
            refine go_jn (fun (j22 : Int32 → fh_S → Option (Int32 × fh_S)) => ∀ (x20 : Int32) (σ21 : fh_S), fh_Go E M 5 fh_vI 101 [(0, .ref (fh_ad E k1)), (1, .int a2), (3, .int x18)] [.int x20, .int x6] σ21 (j22 x20 σ21)) ?_ (fun j22 hj22 => ?_)
            · intro x20 σ21
              refine go_iadd C dX5_judge_101 ?_
              refine go_istore_n C [(2, .int (x6 + x20)), (0, .ref (fh_ad E k1)), (1, .int a2), (3, .int x18)] rfl rfl (by decide) dX5_judge_102 ?_
              refine go_goto C 22 dX5_judge_103 rfl ?_
              refine go_lv [1, 2, 0, 3] (lv' := [(0, .ref (fh_ad E k1)), (1, .int a2), (2, .int (x6 + x20)), (3, .int x18)]) rfl ?_
              exact hr9 (x6 + x20) x18 σ21
            refine go_if_eq (tgt := 100) C dX5_judge_93 rfl (fun _ => ?_) (fun _ => ?_)
            · refine go_iconst C (0 : Int32) dX5_judge_100 rfl ?_
              refine go_lv [1, 2, 0] (lv' := [(0, .ref (fh_ad E k1)), (1, .int a2), (3, .int x18)]) rfl ?_
              exact hj22 ((0 : Int32)) σ19
            · refine go_iconst C (1 : Int32) dX5_judge_96 rfl ?_
              refine go_goto C 101 dX5_judge_97 rfl ?_
              refine go_lv [1, 2, 0] (lv' := [(0, .ref (fh_ad E k1)), (1, .int a2), (3, .int x18)]) rfl ?_
              exact hj22 ((1 : Int32)) σ19
          refine go_jn (fun (j25 : fh_S → Option (Int32 × fh_S)) => ∀ (σ24 : fh_S), fh_Go E M 5 fh_vI 89 [(0, .ref (fh_ad E k1)), (1, .int a2), (2, .int x6)] [] σ24 (j25 σ24)) ?_ (fun j25 hj25 => ?_)
          · intro σ24
            refine go_iconst C (0 : Int32) dX5_judge_89 rfl ?_
            exact hj23 ((0 : Int32)) σ24
          refine go_if_eq (tgt := 89) C dX5_judge_55 rfl (fun _ => ?_) (fun _ => ?_)
          · refine go_lv [1, 2, 3] (lv' := [(0, .ref (fh_ad E k1)), (1, .int a2), (2, .int x6)]) rfl ?_
            exact hj25 σ16
          · refine go_iload_n C 3 rfl rfl dX5_judge_58 ?_
            refine go_jn (fun (j27 : fh_S → Option (Int32 × fh_S)) => ∀ (σ26 : fh_S), fh_Go E M 5 fh_vI 85 [(0, .ref (fh_ad E k1)), (1, .int a2), (2, .int x6)] [] σ26 (j27 σ26)) ?_ (fun j27 hj27 => ?_)
            · intro σ26
              refine go_iconst C (1 : Int32) dX5_judge_85 rfl ?_
              refine go_goto C 90 dX5_judge_86 rfl ?_
              exact hj23 ((1 : Int32)) σ26
            refine go_if_eq (tgt := 85) C dX5_judge_59 rfl (fun _ => ?_) (fun _ => ?_)
            · refine go_lv [1, 2, 3] (lv' := [(0, .ref (fh_ad E k1)), (1, .int a2), (2, .int x6)]) rfl ?_
              exact hj27 σ16
            · refine go_aload_n C 1 rfl rfl dX5_judge_62 ?_
              refine go_aload_n C 1 rfl rfl dX5_judge_63 ?_
              refine go_gr (ci := 5) (j := 19) C fh_in5 rfl (by decide) rfl q_765 dX5_judge_64 (fun k28 => ?_)
              refine go_bipush C (40 : Int32) dX5_judge_67 rfl ?_
              refine go_iload_n C 2 rfl rfl dX5_judge_69 ?_
              refine go_imul C dX5_judge_70 ?_
              refine go_iload_n C 3 rfl rfl dX5_judge_71 ?_
              refine go_iadd C dX5_judge_72 ?_
              refine go_iconst C (1 : Int32) dX5_judge_73 rfl ?_
              refine go_isub C dX5_judge_74 ?_
              refine go_iald C dX5_judge_75 (fun v29 => ?_)
              refine go_iconst C (2 : Int32) dX5_judge_76 rfl ?_
              refine go_callVI C (st := []) [.int v29, .int ((2 : Int32))] (m_X5_dialIs E _ hok k1 v29 ((2 : Int32)) σ16) (fun _ h => fh_ob_ok h) rfl rfl ⟨q_849, q_851, qs_24, q_6, q_852⟩ pd_X5_dialIs rfl ⟨⟨Nat.le_of_ble_eq_true rfl, Nat.le_of_ble_eq_true rfl⟩, rfl, rfl⟩ (Nat.le_of_ble_eq_true rfl) dX5_judge_77 (fun r31 σ30 => ?_)
              refine go_iload C 0 rfl dX5_judge_80 ?_
              refine go_icmp_ne (tgt := 89) C dX5_judge_82 rfl (fun _ => ?_) (fun _ => ?_)
              · refine go_lv [1, 2, 3] (lv' := [(0, .ref (fh_ad E k1)), (1, .int a2), (2, .int x6)]) rfl ?_
                exact hj25 σ30
              · refine go_lv [1, 2, 3] (lv' := [(0, .ref (fh_ad E k1)), (1, .int a2), (2, .int x6)]) rfl ?_
                exact hj27 σ30
  · refine go_aload_n C 0 rfl rfl dX5_judge_8 ?_
    refine go_aload_n C 0 rfl rfl dX5_judge_9 ?_
    refine go_iload_n C 1 rfl rfl dX5_judge_10 ?_
    refine go_callVI C (st := [.ref (fh_ad E k1)]) [.int a2] (m_X5_lacks E _ hok k1 a2 σ4) (fun _ h => fh_ob_ok h) rfl rfl ⟨q_1061, q_1063, qs_48, q_6, q_1064⟩ pd_X5_lacks rfl ⟨⟨Nat.le_of_ble_eq_true rfl, Nat.le_of_ble_eq_true rfl⟩, rfl, rfl⟩ (Nat.le_of_ble_eq_true rfl) dX5_judge_11 (fun r33 σ32 => ?_)
    refine go_callVI C (st := []) [.int r33] (m_X5_finding E _ hok k1 r33 σ32) (fun _ h => fh_ob_ok h) rfl rfl ⟨q_821, q_823, qs_19, q_6, q_824⟩ pd_X5_finding rfl ⟨⟨Nat.le_of_ble_eq_true rfl, Nat.le_of_ble_eq_true rfl⟩, rfl, rfl⟩ (Nat.le_of_ble_eq_true rfl) dX5_judge_14 (fun r35 σ34 => ?_)
    exact go_iret C Hr rfl dX5_judge_17
theorem m_X5_judge (E : fh_E) (l : Launch) (hok : fh_ok E) (k1 : Nat) (a2 : Int32) (σ3 : fh_S) : fh_Met E l yX5_judge cX5_judge 5 ((some FieldType.int)) rm_X5_judge fh_vI [.ref (fh_ad E k1), .int a2] σ3 (f_X5_judge k1 a2 σ3) := fh_met hok (by decide +kernel) (Nat.le_of_ble_eq_true rfl) (fun M _ C Hr => g_X5_judge C Hr k1 a2 σ3)
def f_X5_image (k1 : Nat) (σ2 : fh_S) : Option (Int32 × fh_S) := fh_ob 5 k1 ((fh_gr 5 k1 0).bind fun k3 => (fh_gr 5 k1 1).bind fun k4 => fh_cb (f_X5_copyRow k3 k4 σ2) fun _ σ5 => (fh_pz σ5 5 k1 3 ((1 : Int32))).bind fun σ6 => some ((1 : Int32), σ6))
abbrev rm_X5_image : Room := { frames := 1, cells := 0, slots := 0, locals := 22 }
theorem pd_X5_image : yX5_image.cls ≠ "java/lang/invoke/MethodHandle" ∧ yX5_image.cls ≠ "java/lang/invoke/VarHandle" ∧ (parseMethodDescriptor yX5_image.desc).map (fun d => d.parameters.length) = some 0 := by decide +kernel
theorem dX5_image_0 : decode cX5_image 0 = .ok (.aload_n 0, 1) := by decide +kernel
theorem dX5_image_1 : decode cX5_image 1 = .ok (.getfield 9, 3) := by decide +kernel
theorem dX5_image_4 : decode cX5_image 4 = .ok (.aload_n 0, 1) := by decide +kernel
theorem dX5_image_5 : decode cX5_image 5 = .ok (.getfield 13, 3) := by decide +kernel
theorem dX5_image_8 : decode cX5_image 8 = .ok (.invokestatic 64, 3) := by decide +kernel
theorem dX5_image_11 : decode cX5_image 11 = .ok (.aload_n 0, 1) := by decide +kernel
theorem dX5_image_12 : decode cX5_image 12 = .ok (.iconst 1, 1) := by decide +kernel
theorem dX5_image_13 : decode cX5_image 13 = .ok (.putfield 319, 3) := by decide +kernel
theorem dX5_image_16 : decode cX5_image 16 = .ok (.iconst 1, 1) := by decide +kernel
theorem dX5_image_17 : decode cX5_image 17 = .ok (.ireturn, 1) := by decide +kernel
set_option maxHeartbeats 4000000 in
set_option maxRecDepth 100000 in
theorem g_X5_image {E : fh_E} {M : fh_M} (C : fh_Cx E M cX5_image 1 RX5 ((some FieldType.int)) rm_X5_image) (Hr : fh_Rt E M) (k1 : Nat) (σ2 : fh_S) : fh_Go E M 1 fh_vI 0 [(0, .ref (fh_ad E k1))] [] σ2 (f_X5_image k1 σ2) := by
  have hok := fh_cok C
  refine go_ob ?_
  refine go_aload_n C 0 rfl rfl dX5_image_0 ?_
  refine go_gr (ci := 5) (j := 0) C fh_in5 rfl (by decide) rfl q_746 dX5_image_1 (fun k3 => ?_)
  refine go_aload_n C 0 rfl rfl dX5_image_4 ?_
  refine go_gr (ci := 5) (j := 1) C fh_in5 rfl (by decide) rfl q_747 dX5_image_5 (fun k4 => ?_)
  refine go_callSU C (st := []) [.ref (fh_ad E k3), .ref (fh_ad E k4)] (m_X5_copyRow E _ hok k3 k4 σ2) rfl ⟨q_993, q_994, q_6, q_995⟩ pd_X5_copyRow rfl ⟨⟨Nat.le_of_ble_eq_true rfl, Nat.le_of_ble_eq_true rfl⟩, rfl, rfl⟩ (Nat.le_of_ble_eq_true rfl) dX5_image_8 (fun _ σ5 => ?_)
  refine go_aload_n C 0 rfl rfl dX5_image_11 ?_
  refine go_iconst C (1 : Int32) dX5_image_12 rfl ?_
  refine go_pz (ci := 5) (j := 3) C tyX5 tyX5_ok nmX5 fh_in5 rfl (by decide) rfl q_749 rfl rfl dX5_image_13 (fun σ6 => ?_)
  refine go_iconst C (1 : Int32) dX5_image_16 rfl ?_
  exact go_iret C Hr rfl dX5_image_17
theorem m_X5_image (E : fh_E) (l : Launch) (hok : fh_ok E) (k1 : Nat) (σ2 : fh_S) : fh_Met E l yX5_image cX5_image 1 ((some FieldType.int)) rm_X5_image fh_vI [.ref (fh_ad E k1)] σ2 (f_X5_image k1 σ2) := fh_met hok (by decide +kernel) (Nat.le_of_ble_eq_true rfl) (fun M _ C Hr => g_X5_image C Hr k1 σ2)
def f_X5_undo (k1 : Nat) (σ2 : fh_S) : Option (Int32 × fh_S) := fh_ob 5 k1 ((fh_gi σ2 5 k1 3).bind fun v3 => if v3 = 0 then fh_cb (f_X5_finding k1 ((-1000004 : Int32)) σ2) fun r10 σ9 => some (r10, σ9) else (fh_gr 5 k1 1).bind fun k4 => (fh_gr 5 k1 0).bind fun k5 => fh_cb (f_X5_copyRow k4 k5 σ2) fun _ σ6 => (fh_gr 5 k1 0).bind fun k7 => (fh_ld σ6 k7 ((0 : Int32))).bind fun v8 => some (v8, σ6))
abbrev rm_X5_undo : Room := { frames := 1, cells := 0, slots := 0, locals := 22 }
theorem pd_X5_undo : yX5_undo.cls ≠ "java/lang/invoke/MethodHandle" ∧ yX5_undo.cls ≠ "java/lang/invoke/VarHandle" ∧ (parseMethodDescriptor yX5_undo.desc).map (fun d => d.parameters.length) = some 0 := by decide +kernel
theorem dX5_undo_0 : decode cX5_undo 0 = .ok (.aload_n 0, 1) := by decide +kernel
theorem dX5_undo_1 : decode cX5_undo 1 = .ok (.getfield 319, 3) := by decide +kernel
theorem dX5_undo_4 : decode cX5_undo 4 = .ok (.ifCond .ne 10, 3) := by decide +kernel
theorem dX5_undo_7 : decode cX5_undo 7 = .ok (.aload_n 0, 1) := by decide +kernel
theorem dX5_undo_8 : decode cX5_undo 8 = .ok (.ldc 68, 2) := by decide +kernel
theorem dX5_undo_10 : decode cX5_undo 10 = .ok (.invokevirtual 69, 3) := by decide +kernel
theorem dX5_undo_13 : decode cX5_undo 13 = .ok (.ireturn, 1) := by decide +kernel
theorem dX5_undo_14 : decode cX5_undo 14 = .ok (.aload_n 0, 1) := by decide +kernel
theorem dX5_undo_15 : decode cX5_undo 15 = .ok (.getfield 13, 3) := by decide +kernel
theorem dX5_undo_18 : decode cX5_undo 18 = .ok (.aload_n 0, 1) := by decide +kernel
theorem dX5_undo_19 : decode cX5_undo 19 = .ok (.getfield 9, 3) := by decide +kernel
theorem dX5_undo_22 : decode cX5_undo 22 = .ok (.invokestatic 64, 3) := by decide +kernel
theorem dX5_undo_25 : decode cX5_undo 25 = .ok (.aload_n 0, 1) := by decide +kernel
theorem dX5_undo_26 : decode cX5_undo 26 = .ok (.getfield 9, 3) := by decide +kernel
theorem dX5_undo_29 : decode cX5_undo 29 = .ok (.iconst 0, 1) := by decide +kernel
theorem dX5_undo_30 : decode cX5_undo 30 = .ok (.iaload, 1) := by decide +kernel
theorem dX5_undo_31 : decode cX5_undo 31 = .ok (.ireturn, 1) := by decide +kernel
set_option maxHeartbeats 4000000 in
set_option maxRecDepth 100000 in
theorem g_X5_undo {E : fh_E} {M : fh_M} (C : fh_Cx E M cX5_undo 1 RX5 ((some FieldType.int)) rm_X5_undo) (Hr : fh_Rt E M) (k1 : Nat) (σ2 : fh_S) : fh_Go E M 1 fh_vI 0 [(0, .ref (fh_ad E k1))] [] σ2 (f_X5_undo k1 σ2) := by
  have hok := fh_cok C
  refine go_ob ?_
  refine go_aload_n C 0 rfl rfl dX5_undo_0 ?_
  refine go_gi (ci := 5) (j := 3) C fh_in5 rfl (by decide) rfl q_749 dX5_undo_1 (fun v3 => ?_)
  refine go_if_ne (tgt := 14) C dX5_undo_4 rfl (fun _ => ?_) (fun _ => ?_)
  · refine go_aload_n C 0 rfl rfl dX5_undo_14 ?_
    refine go_gr (ci := 5) (j := 1) C fh_in5 rfl (by decide) rfl q_747 dX5_undo_15 (fun k4 => ?_)
    refine go_aload_n C 0 rfl rfl dX5_undo_18 ?_
    refine go_gr (ci := 5) (j := 0) C fh_in5 rfl (by decide) rfl q_746 dX5_undo_19 (fun k5 => ?_)
    refine go_callSU C (st := []) [.ref (fh_ad E k4), .ref (fh_ad E k5)] (m_X5_copyRow E _ hok k4 k5 σ2) rfl ⟨q_993, q_994, q_6, q_995⟩ pd_X5_copyRow rfl ⟨⟨Nat.le_of_ble_eq_true rfl, Nat.le_of_ble_eq_true rfl⟩, rfl, rfl⟩ (Nat.le_of_ble_eq_true rfl) dX5_undo_22 (fun _ σ6 => ?_)
    refine go_aload_n C 0 rfl rfl dX5_undo_25 ?_
    refine go_gr (ci := 5) (j := 0) C fh_in5 rfl (by decide) rfl q_746 dX5_undo_26 (fun k7 => ?_)
    refine go_iconst C (0 : Int32) dX5_undo_29 rfl ?_
    refine go_iald C dX5_undo_30 (fun v8 => ?_)
    exact go_iret C Hr rfl dX5_undo_31
  · refine go_aload_n C 0 rfl rfl dX5_undo_7 ?_
    refine go_ldc C q_984 dX5_undo_8 ?_
    refine go_callVI C (st := []) [.int ((-1000004 : Int32))] (m_X5_finding E _ hok k1 ((-1000004 : Int32)) σ2) (fun _ h => fh_ob_ok h) rfl rfl ⟨q_821, q_823, qs_19, q_6, q_824⟩ pd_X5_finding rfl ⟨⟨Nat.le_of_ble_eq_true rfl, Nat.le_of_ble_eq_true rfl⟩, rfl, rfl⟩ (Nat.le_of_ble_eq_true rfl) dX5_undo_10 (fun r10 σ9 => ?_)
    exact go_iret C Hr rfl dX5_undo_13
theorem m_X5_undo (E : fh_E) (l : Launch) (hok : fh_ok E) (k1 : Nat) (σ2 : fh_S) : fh_Met E l yX5_undo cX5_undo 1 ((some FieldType.int)) rm_X5_undo fh_vI [.ref (fh_ad E k1)] σ2 (f_X5_undo k1 σ2) := fh_met hok (by decide +kernel) (Nat.le_of_ble_eq_true rfl) (fun M _ C Hr => g_X5_undo C Hr k1 σ2)
def f_X5_tear_J12 (k1 : Nat) : Int32 → fh_S → Option (Int32 × fh_S) := fun x4 σ5 => (fh_pz σ5 5 k1 3 ((0 : Int32))).bind fun σ6 => some (x4, σ6)
def f_X5_tear (k1 : Nat) (σ2 : fh_S) : Option (Int32 × fh_S) := fh_ob 5 k1 ((fh_gi σ2 5 k1 3).bind fun v3 => fh_jn (f_X5_tear_J12 k1) (fun j7 => if v3 = 0 then j7 ((0 : Int32)) σ2 else j7 ((1 : Int32)) σ2))
abbrev rm_X5_tear : Room := { frames := 0, cells := 0, slots := 0, locals := 0 }
theorem pd_X5_tear : yX5_tear.cls ≠ "java/lang/invoke/MethodHandle" ∧ yX5_tear.cls ≠ "java/lang/invoke/VarHandle" ∧ (parseMethodDescriptor yX5_tear.desc).map (fun d => d.parameters.length) = some 0 := by decide +kernel
theorem dX5_tear_0 : decode cX5_tear 0 = .ok (.aload_n 0, 1) := by decide +kernel
theorem dX5_tear_1 : decode cX5_tear 1 = .ok (.getfield 319, 3) := by decide +kernel
theorem dX5_tear_4 : decode cX5_tear 4 = .ok (.ifCond .eq 7, 3) := by decide +kernel
theorem dX5_tear_7 : decode cX5_tear 7 = .ok (.iconst 1, 1) := by decide +kernel
theorem dX5_tear_8 : decode cX5_tear 8 = .ok (.goto 4, 3) := by decide +kernel
theorem dX5_tear_11 : decode cX5_tear 11 = .ok (.iconst 0, 1) := by decide +kernel
theorem dX5_tear_12 : decode cX5_tear 12 = .ok (.istore_n 1, 1) := by decide +kernel
theorem dX5_tear_13 : decode cX5_tear 13 = .ok (.aload_n 0, 1) := by decide +kernel
theorem dX5_tear_14 : decode cX5_tear 14 = .ok (.iconst 0, 1) := by decide +kernel
theorem dX5_tear_15 : decode cX5_tear 15 = .ok (.putfield 319, 3) := by decide +kernel
theorem dX5_tear_18 : decode cX5_tear 18 = .ok (.iload_n 1, 1) := by decide +kernel
theorem dX5_tear_19 : decode cX5_tear 19 = .ok (.ireturn, 1) := by decide +kernel
set_option maxHeartbeats 4000000 in
set_option maxRecDepth 100000 in
theorem g_X5_tear {E : fh_E} {M : fh_M} (C : fh_Cx E M cX5_tear 2 RX5 ((some FieldType.int)) rm_X5_tear) (Hr : fh_Rt E M) (k1 : Nat) (σ2 : fh_S) : fh_Go E M 2 fh_vI 0 [(0, .ref (fh_ad E k1))] [] σ2 (f_X5_tear k1 σ2) := by
  have hok := fh_cok C
  refine go_ob ?_
  refine go_aload_n C 0 rfl rfl dX5_tear_0 ?_
  refine go_gi (ci := 5) (j := 3) C fh_in5 rfl (by decide) rfl q_749 dX5_tear_1 (fun v3 => ?_)
  refine go_jn (fun (j7 : Int32 → fh_S → Option (Int32 × fh_S)) => ∀ (x4 : Int32) (σ5 : fh_S), fh_Go E M 2 fh_vI 12 [(0, .ref (fh_ad E k1))] [.int x4] σ5 (j7 x4 σ5)) ?_ (fun j7 hj7 => ?_)
  · intro x4 σ5
    refine go_istore_n C [(1, .int x4), (0, .ref (fh_ad E k1))] rfl rfl (by decide) dX5_tear_12 ?_
    refine go_aload_n C 1 rfl rfl dX5_tear_13 ?_
    refine go_iconst C (0 : Int32) dX5_tear_14 rfl ?_
    refine go_pz (ci := 5) (j := 3) C tyX5 tyX5_ok nmX5 fh_in5 rfl (by decide) rfl q_749 rfl rfl dX5_tear_15 (fun σ6 => ?_)
    refine go_iload_n C 0 rfl rfl dX5_tear_18 ?_
    exact go_iret C Hr rfl dX5_tear_19
  refine go_if_eq (tgt := 11) C dX5_tear_4 rfl (fun _ => ?_) (fun _ => ?_)
  · refine go_iconst C (0 : Int32) dX5_tear_11 rfl ?_
    exact hj7 ((0 : Int32)) σ2
  · refine go_iconst C (1 : Int32) dX5_tear_7 rfl ?_
    refine go_goto C 12 dX5_tear_8 rfl ?_
    exact hj7 ((1 : Int32)) σ2
theorem m_X5_tear (E : fh_E) (l : Launch) (hok : fh_ok E) (k1 : Nat) (σ2 : fh_S) : fh_Met E l yX5_tear cX5_tear 2 ((some FieldType.int)) rm_X5_tear fh_vI [.ref (fh_ad E k1)] σ2 (f_X5_tear k1 σ2) := fh_met hok (by decide +kernel) (Nat.le_of_ble_eq_true rfl) (fun M _ C Hr => g_X5_tear C Hr k1 σ2)
def f_X5_count_J118 (r29 : Int32 → Int32 → fh_S → Option (Int32 × fh_S)) (x26 : Int32) (x27 : Int32) : Int32 → fh_S → Option (Int32 × fh_S) := fun x32 σ33 => r29 (x26 + x32) (x27 + 1) σ33
def f_X5_count_B95 (k1 : Nat) (r29 : Int32 → Int32 → fh_S → Option (Int32 × fh_S)) : Int32 → Int32 → fh_S → Option (Int32 × fh_S) := fun x26 x27 σ28 => if ((10 : Int32)) ≤ x27 then some (x26, σ28) else (fh_gr 5 k1 0).bind fun k30 => (fh_ld σ28 k30 (((3 : Int32)) + x27)).bind fun v31 => fh_jn (f_X5_count_J118 r29 x26 x27) (fun j34 => if 0 ≤ v31 then j34 ((1 : Int32)) σ28 else j34 ((0 : Int32)) σ28)
def f_X5_count (k1 : Nat) (a2 : Int32) (σ3 : fh_S) : Option (Int32 × fh_S) := fh_ob 5 k1 (if a2 = (0 : Int32) then (fh_gr 5 k1 0).bind fun k4 => (fh_ld σ3 k4 ((0 : Int32))).bind fun v5 => some (v5, σ3) else if a2 = (1 : Int32) then (fh_gr 5 k1 0).bind fun k7 => (fh_ld σ3 k7 ((1 : Int32))).bind fun v8 => some (v8, σ3) else if a2 = (2 : Int32) then fh_cb (f_X5_stoppedNow k1 σ3) fun r11 σ10 => fh_cb (f_X5_bits r11 σ10) fun r13 σ12 => some (r13, σ12) else if a2 = (3 : Int32) then fh_cb (f_X5_manyRings k1 σ3) fun r16 σ15 => some (r16, σ15) else if a2 = (4 : Int32) then fh_cb (f_X5_sumOf k1 ((1 : Int32)) σ3) fun r19 σ18 => some (r19, σ18) else if a2 = (5 : Int32) then (fh_gi σ3 5 k1 7).bind fun v21 => some (v21, σ3) else if a2 = (6 : Int32) then (fh_gr 5 k1 0).bind fun k23 => (fh_ld σ3 k23 ((2 : Int32))).bind fun v24 => some (v24, σ3) else if a2 = (7 : Int32) then fh_fx (ρ := Int32 → Int32 → fh_S → Option (Int32 × fh_S)) (fun _ _ _ => none) (f_X5_count_B95 k1) fh_fu ((0 : Int32)) ((0 : Int32)) σ3 else fh_cb (f_X5_finding k1 ((-1000001 : Int32)) σ3) fun r37 σ36 => some (r37, σ36))
abbrev rm_X5_count : Room := { frames := 5, cells := 0, slots := 0, locals := 112 }
theorem pd_X5_count : yX5_count.cls ≠ "java/lang/invoke/MethodHandle" ∧ yX5_count.cls ≠ "java/lang/invoke/VarHandle" ∧ (parseMethodDescriptor yX5_count.desc).map (fun d => d.parameters.length) = some 1 := by decide +kernel
theorem dX5_count_0 : decode cX5_count 0 = .ok (.iconst 0, 1) := by decide +kernel
theorem dX5_count_1 : decode cX5_count 1 = .ok (.istore_n 2, 1) := by decide +kernel
theorem dX5_count_2 : decode cX5_count 2 = .ok (.iload_n 1, 1) := by decide +kernel
theorem dX5_count_3 : decode cX5_count 3 = .ok (.tableswitch 125 0 7 #[45, 52, 59, 67, 72, 78, 83, 90], 45) := by decide +kernel
theorem dX5_count_48 : decode cX5_count 48 = .ok (.aload_n 0, 1) := by decide +kernel
theorem dX5_count_49 : decode cX5_count 49 = .ok (.getfield 9, 3) := by decide +kernel
theorem dX5_count_52 : decode cX5_count 52 = .ok (.iconst 0, 1) := by decide +kernel
theorem dX5_count_53 : decode cX5_count 53 = .ok (.iaload, 1) := by decide +kernel
theorem dX5_count_54 : decode cX5_count 54 = .ok (.ireturn, 1) := by decide +kernel
theorem dX5_count_55 : decode cX5_count 55 = .ok (.aload_n 0, 1) := by decide +kernel
theorem dX5_count_56 : decode cX5_count 56 = .ok (.getfield 9, 3) := by decide +kernel
theorem dX5_count_59 : decode cX5_count 59 = .ok (.iconst 1, 1) := by decide +kernel
theorem dX5_count_60 : decode cX5_count 60 = .ok (.iaload, 1) := by decide +kernel
theorem dX5_count_61 : decode cX5_count 61 = .ok (.ireturn, 1) := by decide +kernel
theorem dX5_count_62 : decode cX5_count 62 = .ok (.aload_n 0, 1) := by decide +kernel
theorem dX5_count_63 : decode cX5_count 63 = .ok (.invokevirtual 149, 3) := by decide +kernel
theorem dX5_count_66 : decode cX5_count 66 = .ok (.invokestatic 146, 3) := by decide +kernel
theorem dX5_count_69 : decode cX5_count 69 = .ok (.ireturn, 1) := by decide +kernel
theorem dX5_count_70 : decode cX5_count 70 = .ok (.aload_n 0, 1) := by decide +kernel
theorem dX5_count_71 : decode cX5_count 71 = .ok (.invokevirtual 174, 3) := by decide +kernel
theorem dX5_count_74 : decode cX5_count 74 = .ok (.ireturn, 1) := by decide +kernel
theorem dX5_count_75 : decode cX5_count 75 = .ok (.aload_n 0, 1) := by decide +kernel
theorem dX5_count_76 : decode cX5_count 76 = .ok (.iconst 1, 1) := by decide +kernel
theorem dX5_count_77 : decode cX5_count 77 = .ok (.invokevirtual 159, 3) := by decide +kernel
theorem dX5_count_80 : decode cX5_count 80 = .ok (.ireturn, 1) := by decide +kernel
theorem dX5_count_81 : decode cX5_count 81 = .ok (.aload_n 0, 1) := by decide +kernel
theorem dX5_count_82 : decode cX5_count 82 = .ok (.getfield 227, 3) := by decide +kernel
theorem dX5_count_85 : decode cX5_count 85 = .ok (.ireturn, 1) := by decide +kernel
theorem dX5_count_86 : decode cX5_count 86 = .ok (.aload_n 0, 1) := by decide +kernel
theorem dX5_count_87 : decode cX5_count 87 = .ok (.getfield 9, 3) := by decide +kernel
theorem dX5_count_90 : decode cX5_count 90 = .ok (.iconst 2, 1) := by decide +kernel
theorem dX5_count_91 : decode cX5_count 91 = .ok (.iaload, 1) := by decide +kernel
theorem dX5_count_92 : decode cX5_count 92 = .ok (.ireturn, 1) := by decide +kernel
theorem dX5_count_93 : decode cX5_count 93 = .ok (.iconst 0, 1) := by decide +kernel
theorem dX5_count_94 : decode cX5_count 94 = .ok (.istore_n 3, 1) := by decide +kernel
theorem dX5_count_95 : decode cX5_count 95 = .ok (.iload_n 3, 1) := by decide +kernel
theorem dX5_count_96 : decode cX5_count 96 = .ok (.bipush 10, 2) := by decide +kernel
theorem dX5_count_98 : decode cX5_count 98 = .ok (.if_icmp .ge 28, 3) := by decide +kernel
theorem dX5_count_101 : decode cX5_count 101 = .ok (.iload_n 2, 1) := by decide +kernel
theorem dX5_count_102 : decode cX5_count 102 = .ok (.aload_n 0, 1) := by decide +kernel
theorem dX5_count_103 : decode cX5_count 103 = .ok (.getfield 9, 3) := by decide +kernel
theorem dX5_count_106 : decode cX5_count 106 = .ok (.iconst 3, 1) := by decide +kernel
theorem dX5_count_107 : decode cX5_count 107 = .ok (.iload_n 3, 1) := by decide +kernel
theorem dX5_count_108 : decode cX5_count 108 = .ok (.iadd, 1) := by decide +kernel
theorem dX5_count_109 : decode cX5_count 109 = .ok (.iaload, 1) := by decide +kernel
theorem dX5_count_110 : decode cX5_count 110 = .ok (.ifCond .ge 7, 3) := by decide +kernel
theorem dX5_count_113 : decode cX5_count 113 = .ok (.iconst 0, 1) := by decide +kernel
theorem dX5_count_114 : decode cX5_count 114 = .ok (.goto 4, 3) := by decide +kernel
theorem dX5_count_117 : decode cX5_count 117 = .ok (.iconst 1, 1) := by decide +kernel
theorem dX5_count_118 : decode cX5_count 118 = .ok (.iadd, 1) := by decide +kernel
theorem dX5_count_119 : decode cX5_count 119 = .ok (.istore_n 2, 1) := by decide +kernel
theorem dX5_count_120 : decode cX5_count 120 = .ok (.iinc 3 1, 3) := by decide +kernel
theorem dX5_count_123 : decode cX5_count 123 = .ok (.goto (-28), 3) := by decide +kernel
theorem dX5_count_126 : decode cX5_count 126 = .ok (.iload_n 2, 1) := by decide +kernel
theorem dX5_count_127 : decode cX5_count 127 = .ok (.ireturn, 1) := by decide +kernel
theorem dX5_count_128 : decode cX5_count 128 = .ok (.aload_n 0, 1) := by decide +kernel
theorem dX5_count_129 : decode cX5_count 129 = .ok (.ldc 63, 2) := by decide +kernel
theorem dX5_count_131 : decode cX5_count 131 = .ok (.invokevirtual 69, 3) := by decide +kernel
theorem dX5_count_134 : decode cX5_count 134 = .ok (.ireturn, 1) := by decide +kernel
set_option maxHeartbeats 4000000 in
set_option maxRecDepth 100000 in
theorem g_X5_count {E : fh_E} {M : fh_M} (C : fh_Cx E M cX5_count 4 RX5 ((some FieldType.int)) rm_X5_count) (Hr : fh_Rt E M) (k1 : Nat) (a2 : Int32) (σ3 : fh_S) : fh_Go E M 4 fh_vI 0 [(0, .ref (fh_ad E k1)), (1, .int a2)] [] σ3 (f_X5_count k1 a2 σ3) := by
  have hok := fh_cok C
  refine go_ob ?_
  refine go_iconst C (0 : Int32) dX5_count_0 rfl ?_
  refine go_istore_n C [(2, .int ((0 : Int32))), (0, .ref (fh_ad E k1)), (1, .int a2)] rfl rfl (by decide) dX5_count_1 ?_
  refine go_iload_n C 2 rfl rfl dX5_count_2 ?_
  refine go_sw C (0 : Int32) 48 dX5_count_3 (by decide) (by decide) rfl rfl ?_ (fun hn6 => ?_)
  · refine go_aload_n C 1 rfl rfl dX5_count_48 ?_
    refine go_gr (ci := 5) (j := 0) C fh_in5 rfl (by decide) rfl q_746 dX5_count_49 (fun k4 => ?_)
    refine go_iconst C (0 : Int32) dX5_count_52 rfl ?_
    refine go_iald C dX5_count_53 (fun v5 => ?_)
    exact go_iret C Hr rfl dX5_count_54
  refine go_sw C (1 : Int32) 55 dX5_count_3 (by decide) (by decide) rfl rfl ?_ (fun hn9 => ?_)
  · refine go_aload_n C 1 rfl rfl dX5_count_55 ?_
    refine go_gr (ci := 5) (j := 0) C fh_in5 rfl (by decide) rfl q_746 dX5_count_56 (fun k7 => ?_)
    refine go_iconst C (1 : Int32) dX5_count_59 rfl ?_
    refine go_iald C dX5_count_60 (fun v8 => ?_)
    exact go_iret C Hr rfl dX5_count_61
  refine go_sw C (2 : Int32) 62 dX5_count_3 (by decide) (by decide) rfl rfl ?_ (fun hn14 => ?_)
  · refine go_aload_n C 1 rfl rfl dX5_count_62 ?_
    refine go_callVI C (st := []) [] (m_X5_stoppedNow E _ hok k1 σ3) (fun _ h => fh_ob_ok h) rfl rfl ⟨q_910, q_912, qs_31, q_6, q_913⟩ pd_X5_stoppedNow rfl ⟨⟨Nat.le_of_ble_eq_true rfl, Nat.le_of_ble_eq_true rfl⟩, rfl, rfl⟩ (Nat.le_of_ble_eq_true rfl) dX5_count_63 (fun r11 σ10 => ?_)
    refine go_callSI C (st := []) [.int r11] (m_X5_bits E _ hok r11 σ10) rfl ⟨q_934, q_935, q_6, q_936⟩ pd_X5_bits rfl ⟨⟨Nat.le_of_ble_eq_true rfl, Nat.le_of_ble_eq_true rfl⟩, rfl, rfl⟩ (Nat.le_of_ble_eq_true rfl) dX5_count_66 (fun r13 σ12 => ?_)
    exact go_iret C Hr rfl dX5_count_69
  refine go_sw C (3 : Int32) 70 dX5_count_3 (by decide) (by decide) rfl rfl ?_ (fun hn17 => ?_)
  · refine go_aload_n C 1 rfl rfl dX5_count_70 ?_
    refine go_callVI C (st := []) [] (m_X5_manyRings E _ hok k1 σ3) (fun _ h => fh_ob_ok h) rfl rfl ⟨q_960, q_962, qs_39, q_6, q_963⟩ pd_X5_manyRings rfl ⟨⟨Nat.le_of_ble_eq_true rfl, Nat.le_of_ble_eq_true rfl⟩, rfl, rfl⟩ (Nat.le_of_ble_eq_true rfl) dX5_count_71 (fun r16 σ15 => ?_)
    exact go_iret C Hr rfl dX5_count_74
  refine go_sw C (4 : Int32) 75 dX5_count_3 (by decide) (by decide) rfl rfl ?_ (fun hn20 => ?_)
  · refine go_aload_n C 1 rfl rfl dX5_count_75 ?_
    refine go_iconst C (1 : Int32) dX5_count_76 rfl ?_
    refine go_callVI C (st := []) [.int ((1 : Int32))] (m_X5_sumOf E _ hok k1 ((1 : Int32)) σ3) (fun _ h => fh_ob_ok h) rfl rfl ⟨q_922, q_924, qs_34, q_6, q_925⟩ pd_X5_sumOf rfl ⟨⟨Nat.le_of_ble_eq_true rfl, Nat.le_of_ble_eq_true rfl⟩, rfl, rfl⟩ (Nat.le_of_ble_eq_true rfl) dX5_count_77 (fun r19 σ18 => ?_)
    exact go_iret C Hr rfl dX5_count_80
  refine go_sw C (5 : Int32) 81 dX5_count_3 (by decide) (by decide) rfl rfl ?_ (fun hn22 => ?_)
  · refine go_aload_n C 1 rfl rfl dX5_count_81 ?_
    refine go_gi (ci := 5) (j := 7) C fh_in5 rfl (by decide) rfl q_753 dX5_count_82 (fun v21 => ?_)
    exact go_iret C Hr rfl dX5_count_85
  refine go_sw C (6 : Int32) 86 dX5_count_3 (by decide) (by decide) rfl rfl ?_ (fun hn25 => ?_)
  · refine go_aload_n C 1 rfl rfl dX5_count_86 ?_
    refine go_gr (ci := 5) (j := 0) C fh_in5 rfl (by decide) rfl q_746 dX5_count_87 (fun k23 => ?_)
    refine go_iconst C (2 : Int32) dX5_count_90 rfl ?_
    refine go_iald C dX5_count_91 (fun v24 => ?_)
    exact go_iret C Hr rfl dX5_count_92
  refine go_sw C (7 : Int32) 93 dX5_count_3 (by decide) (by decide) rfl rfl ?_ (fun hn35 => ?_)
  · refine go_iconst C (0 : Int32) dX5_count_93 rfl ?_
    refine go_istore_n C [(3, .int ((0 : Int32))), (2, .int ((0 : Int32))), (0, .ref (fh_ad E k1)), (1, .int a2)] rfl rfl (by decide) dX5_count_94 ?_
    refine go_lv [2, 1, 0] (lv' := [(0, .ref (fh_ad E k1)), (2, .int ((0 : Int32))), (3, .int ((0 : Int32)))]) rfl ?_
    refine go_fx (fun (r29 : Int32 → Int32 → fh_S → Option (Int32 × fh_S)) => ∀ (x26 : Int32) (x27 : Int32) (σ28 : fh_S), fh_Go E M 4 fh_vI 95 [(0, .ref (fh_ad E k1)), (2, .int x26), (3, .int x27)] [] σ28 (r29 x26 x27 σ28)) ?_ ?_ fh_fu ((0 : Int32)) ((0 : Int32)) σ3
    · intro x26 x27 σ28
      exact go_none
    · intro r29 hr29 x26 x27 σ28
      refine go_iload_n C 2 rfl rfl dX5_count_95 ?_
      refine go_bipush C (10 : Int32) dX5_count_96 rfl ?_
      refine go_icmp_ge (tgt := 126) C dX5_count_98 rfl (fun _ => ?_) (fun _ => ?_)
      · refine go_iload_n C 1 rfl rfl dX5_count_126 ?_
        exact go_iret C Hr rfl dX5_count_127
      · refine go_iload_n C 1 rfl rfl dX5_count_101 ?_
        refine go_aload_n C 0 rfl rfl dX5_count_102 ?_
        refine go_gr (ci := 5) (j := 0) C fh_in5 rfl (by decide) rfl q_746 dX5_count_103 (fun k30 => ?_)
        refine go_iconst C (3 : Int32) dX5_count_106 rfl ?_
        refine go_iload_n C 2 rfl rfl dX5_count_107 ?_
        refine go_iadd C dX5_count_108 ?_
        refine go_iald C dX5_count_109 (fun v31 => ?_)
        refine go_jn (fun (j34 : Int32 → fh_S → Option (Int32 × fh_S)) => ∀ (x32 : Int32) (σ33 : fh_S), fh_Go E M 4 fh_vI 118 [(0, .ref (fh_ad E k1)), (3, .int x27)] [.int x32, .int x26] σ33 (j34 x32 σ33)) ?_ (fun j34 hj34 => ?_)
        · intro x32 σ33
          refine go_iadd C dX5_count_118 ?_
          refine go_istore_n C [(2, .int (x26 + x32)), (0, .ref (fh_ad E k1)), (3, .int x27)] rfl rfl (by decide) dX5_count_119 ?_
          refine go_iinc C (x27 + 1) 2 [(3, .int (x27 + 1)), (2, .int (x26 + x32)), (0, .ref (fh_ad E k1))] rfl rfl rfl (by decide) dX5_count_120 ?_
          refine go_goto C 95 dX5_count_123 rfl ?_
          refine go_lv [2, 1, 0] (lv' := [(0, .ref (fh_ad E k1)), (2, .int (x26 + x32)), (3, .int (x27 + 1))]) rfl ?_
          exact hr29 (x26 + x32) (x27 + 1) σ33
        refine go_if_ge (tgt := 117) C dX5_count_110 rfl (fun _ => ?_) (fun _ => ?_)
        · refine go_iconst C (1 : Int32) dX5_count_117 rfl ?_
          refine go_lv [0, 2] (lv' := [(0, .ref (fh_ad E k1)), (3, .int x27)]) rfl ?_
          exact hj34 ((1 : Int32)) σ28
        · refine go_iconst C (0 : Int32) dX5_count_113 rfl ?_
          refine go_goto C 118 dX5_count_114 rfl ?_
          refine go_lv [0, 2] (lv' := [(0, .ref (fh_ad E k1)), (3, .int x27)]) rfl ?_
          exact hj34 ((0 : Int32)) σ28
  refine go_swd C 128 dX5_count_3 (by have hh0 := fh_ne (z := 0) hn6 (by decide); have hh1 := fh_ne (z := 1) hn9 (by decide); have hh2 := fh_ne (z := 2) hn14 (by decide); have hh3 := fh_ne (z := 3) hn17 (by decide); have hh4 := fh_ne (z := 4) hn20 (by decide); have hh5 := fh_ne (z := 5) hn22 (by decide); have hh6 := fh_ne (z := 6) hn25 (by decide); have hh7 := fh_ne (z := 7) hn35 (by decide); omega) rfl ?_
  refine go_aload_n C 1 rfl rfl dX5_count_128 ?_
  refine go_ldc C q_820 dX5_count_129 ?_
  refine go_callVI C (st := []) [.int ((-1000001 : Int32))] (m_X5_finding E _ hok k1 ((-1000001 : Int32)) σ3) (fun _ h => fh_ob_ok h) rfl rfl ⟨q_821, q_823, qs_19, q_6, q_824⟩ pd_X5_finding rfl ⟨⟨Nat.le_of_ble_eq_true rfl, Nat.le_of_ble_eq_true rfl⟩, rfl, rfl⟩ (Nat.le_of_ble_eq_true rfl) dX5_count_131 (fun r37 σ36 => ?_)
  exact go_iret C Hr rfl dX5_count_134
theorem m_X5_count (E : fh_E) (l : Launch) (hok : fh_ok E) (k1 : Nat) (a2 : Int32) (σ3 : fh_S) : fh_Met E l yX5_count cX5_count 4 ((some FieldType.int)) rm_X5_count fh_vI [.ref (fh_ad E k1), .int a2] σ3 (f_X5_count k1 a2 σ3) := fh_met hok (by decide +kernel) (Nat.le_of_ble_eq_true rfl) (fun M _ C Hr => g_X5_count C Hr k1 a2 σ3)
def f_X5_status (k1 : Nat) (a2 : Int32) (σ3 : fh_S) : Option (Int32 × fh_S) := fh_ob 5 k1 (fh_cb (f_X5_within a2 ((-1 : Int32)) ((6 : Int32)) σ3) fun r5 σ4 => if r5 = 0 then fh_cb (f_X5_finding k1 ((-1000001 : Int32)) σ4) fun r7 σ6 => some (r7, σ6) else (fh_gr 5 k1 4).bind fun k8 => (fh_ld σ4 k8 (a2 + ((1 : Int32)))).bind fun v9 => some (v9, σ4))
abbrev rm_X5_status : Room := { frames := 1, cells := 0, slots := 0, locals := 22 }
theorem pd_X5_status : yX5_status.cls ≠ "java/lang/invoke/MethodHandle" ∧ yX5_status.cls ≠ "java/lang/invoke/VarHandle" ∧ (parseMethodDescriptor yX5_status.desc).map (fun d => d.parameters.length) = some 1 := by decide +kernel
theorem dX5_status_0 : decode cX5_status 0 = .ok (.iload_n 1, 1) := by decide +kernel
theorem dX5_status_1 : decode cX5_status 1 = .ok (.iconst (-1), 1) := by decide +kernel
theorem dX5_status_2 : decode cX5_status 2 = .ok (.bipush 6, 2) := by decide +kernel
theorem dX5_status_4 : decode cX5_status 4 = .ok (.invokestatic 73, 3) := by decide +kernel
theorem dX5_status_7 : decode cX5_status 7 = .ok (.ifCond .eq 14, 3) := by decide +kernel
theorem dX5_status_10 : decode cX5_status 10 = .ok (.aload_n 0, 1) := by decide +kernel
theorem dX5_status_11 : decode cX5_status 11 = .ok (.getfield 19, 3) := by decide +kernel
theorem dX5_status_14 : decode cX5_status 14 = .ok (.iload_n 1, 1) := by decide +kernel
theorem dX5_status_15 : decode cX5_status 15 = .ok (.iconst 1, 1) := by decide +kernel
theorem dX5_status_16 : decode cX5_status 16 = .ok (.iadd, 1) := by decide +kernel
theorem dX5_status_17 : decode cX5_status 17 = .ok (.iaload, 1) := by decide +kernel
theorem dX5_status_18 : decode cX5_status 18 = .ok (.goto 9, 3) := by decide +kernel
theorem dX5_status_21 : decode cX5_status 21 = .ok (.aload_n 0, 1) := by decide +kernel
theorem dX5_status_22 : decode cX5_status 22 = .ok (.ldc 63, 2) := by decide +kernel
theorem dX5_status_24 : decode cX5_status 24 = .ok (.invokevirtual 69, 3) := by decide +kernel
theorem dX5_status_27 : decode cX5_status 27 = .ok (.ireturn, 1) := by decide +kernel
set_option maxHeartbeats 4000000 in
set_option maxRecDepth 100000 in
theorem g_X5_status {E : fh_E} {M : fh_M} (C : fh_Cx E M cX5_status 2 RX5 ((some FieldType.int)) rm_X5_status) (Hr : fh_Rt E M) (k1 : Nat) (a2 : Int32) (σ3 : fh_S) : fh_Go E M 2 fh_vI 0 [(0, .ref (fh_ad E k1)), (1, .int a2)] [] σ3 (f_X5_status k1 a2 σ3) := by
  have hok := fh_cok C
  refine go_ob ?_
  refine go_iload_n C 1 rfl rfl dX5_status_0 ?_
  refine go_iconst C (-1 : Int32) dX5_status_1 rfl ?_
  refine go_bipush C (6 : Int32) dX5_status_2 rfl ?_
  refine go_callSI C (st := []) [.int a2, .int ((-1 : Int32)), .int ((6 : Int32))] (m_X5_within E _ hok a2 ((-1 : Int32)) ((6 : Int32)) σ3) rfl ⟨q_817, q_818, q_6, q_819⟩ pd_X5_within rfl ⟨⟨Nat.le_of_ble_eq_true rfl, Nat.le_of_ble_eq_true rfl⟩, rfl, rfl⟩ (Nat.le_of_ble_eq_true rfl) dX5_status_4 (fun r5 σ4 => ?_)
  refine go_if_eq (tgt := 21) C dX5_status_7 rfl (fun _ => ?_) (fun _ => ?_)
  · refine go_aload_n C 0 rfl rfl dX5_status_21 ?_
    refine go_ldc C q_820 dX5_status_22 ?_
    refine go_callVI C (st := []) [.int ((-1000001 : Int32))] (m_X5_finding E _ hok k1 ((-1000001 : Int32)) σ4) (fun _ h => fh_ob_ok h) rfl rfl ⟨q_821, q_823, qs_19, q_6, q_824⟩ pd_X5_finding rfl ⟨⟨Nat.le_of_ble_eq_true rfl, Nat.le_of_ble_eq_true rfl⟩, rfl, rfl⟩ (Nat.le_of_ble_eq_true rfl) dX5_status_24 (fun r7 σ6 => ?_)
    exact go_iret C Hr rfl dX5_status_27
  · refine go_aload_n C 0 rfl rfl dX5_status_10 ?_
    refine go_gr (ci := 5) (j := 4) C fh_in5 rfl (by decide) rfl q_750 dX5_status_11 (fun k8 => ?_)
    refine go_iload_n C 1 rfl rfl dX5_status_14 ?_
    refine go_iconst C (1 : Int32) dX5_status_15 rfl ?_
    refine go_iadd C dX5_status_16 ?_
    refine go_iald C dX5_status_17 (fun v9 => ?_)
    refine go_goto C 27 dX5_status_18 rfl ?_
    exact go_iret C Hr rfl dX5_status_27
theorem m_X5_status (E : fh_E) (l : Launch) (hok : fh_ok E) (k1 : Nat) (a2 : Int32) (σ3 : fh_S) : fh_Met E l yX5_status cX5_status 2 ((some FieldType.int)) rm_X5_status fh_vI [.ref (fh_ad E k1), .int a2] σ3 (f_X5_status k1 a2 σ3) := fh_met hok (by decide +kernel) (Nat.le_of_ble_eq_true rfl) (fun M _ C Hr => g_X5_status C Hr k1 a2 σ3)
