def f_X0_become (k1 : Nat) (k2 : Nat) (σ3 : fh_S) : Option (Unit × fh_S) := fh_ob 0 k1 ((fh_gi σ3 0 k2 9).bind fun v4 => (fh_pf σ3 0 k1 9 v4).bind fun σ5 => (fh_gi σ5 0 k2 10).bind fun v6 => (fh_pf σ5 0 k1 10 v6).bind fun σ7 => (fh_gi σ7 0 k2 11).bind fun v8 => (fh_pf σ7 0 k1 11 v8).bind fun σ9 => (fh_gr 0 k2 0).bind fun k10 => (fh_gr 0 k1 0).bind fun k11 => (fh_cp σ9 k10 ((0 : Int32)) k11 ((0 : Int32)) ((10 : Int32))).bind fun σ12 => (fh_gr 0 k2 1).bind fun k13 => (fh_gr 0 k1 1).bind fun k14 => (fh_cp σ12 k13 ((0 : Int32)) k14 ((0 : Int32)) ((10 : Int32))).bind fun σ15 => (fh_gr 0 k2 2).bind fun k16 => (fh_gr 0 k1 2).bind fun k17 => (fh_cp σ15 k16 ((0 : Int32)) k17 ((0 : Int32)) ((10 : Int32))).bind fun σ18 => (fh_gr 0 k2 3).bind fun k19 => (fh_gr 0 k1 3).bind fun k20 => (fh_cp σ18 k19 ((0 : Int32)) k20 ((0 : Int32)) ((10 : Int32))).bind fun σ21 => (fh_gr 0 k2 4).bind fun k22 => (fh_gr 0 k1 4).bind fun k23 => (fh_cp σ21 k22 ((0 : Int32)) k23 ((0 : Int32)) ((10 : Int32))).bind fun σ24 => (fh_gr 0 k2 5).bind fun k25 => (fh_gr 0 k1 5).bind fun k26 => (fh_cp σ24 k25 ((0 : Int32)) k26 ((0 : Int32)) ((10 : Int32))).bind fun σ27 => (fh_gr 0 k2 6).bind fun k28 => (fh_gr 0 k1 6).bind fun k29 => (fh_cp σ27 k28 ((0 : Int32)) k29 ((0 : Int32)) ((10 : Int32))).bind fun σ30 => some ((), σ30))
abbrev rm_X0_become : Room := { frames := 1, cells := 0, slots := 0, locals := 60 }
theorem pd_X0_become : yX0_become.cls ≠ "java/lang/invoke/MethodHandle" ∧ yX0_become.cls ≠ "java/lang/invoke/VarHandle" ∧ (parseMethodDescriptor yX0_become.desc).map (fun d => d.parameters.length) = some 1 := by decide +kernel
theorem dX0_become_0 : decode cX0_become 0 = .ok (.aload_n 0, 1) := by decide +kernel
theorem dX0_become_1 : decode cX0_become 1 = .ok (.aload_n 1, 1) := by decide +kernel
theorem dX0_become_2 : decode cX0_become 2 = .ok (.getfield 39, 3) := by decide +kernel
theorem dX0_become_5 : decode cX0_become 5 = .ok (.putfield 39, 3) := by decide +kernel
theorem dX0_become_8 : decode cX0_become 8 = .ok (.aload_n 0, 1) := by decide +kernel
theorem dX0_become_9 : decode cX0_become 9 = .ok (.aload_n 1, 1) := by decide +kernel
theorem dX0_become_10 : decode cX0_become 10 = .ok (.getfield 43, 3) := by decide +kernel
theorem dX0_become_13 : decode cX0_become 13 = .ok (.putfield 43, 3) := by decide +kernel
theorem dX0_become_16 : decode cX0_become 16 = .ok (.aload_n 0, 1) := by decide +kernel
theorem dX0_become_17 : decode cX0_become 17 = .ok (.aload_n 1, 1) := by decide +kernel
theorem dX0_become_18 : decode cX0_become 18 = .ok (.getfield 46, 3) := by decide +kernel
theorem dX0_become_21 : decode cX0_become 21 = .ok (.putfield 46, 3) := by decide +kernel
theorem dX0_become_24 : decode cX0_become 24 = .ok (.aload_n 1, 1) := by decide +kernel
theorem dX0_become_25 : decode cX0_become 25 = .ok (.getfield 9, 3) := by decide +kernel
theorem dX0_become_28 : decode cX0_become 28 = .ok (.iconst 0, 1) := by decide +kernel
theorem dX0_become_29 : decode cX0_become 29 = .ok (.aload_n 0, 1) := by decide +kernel
theorem dX0_become_30 : decode cX0_become 30 = .ok (.getfield 9, 3) := by decide +kernel
theorem dX0_become_33 : decode cX0_become 33 = .ok (.iconst 0, 1) := by decide +kernel
theorem dX0_become_34 : decode cX0_become 34 = .ok (.bipush 10, 2) := by decide +kernel
theorem dX0_become_36 : decode cX0_become 36 = .ok (.invokestatic 49, 3) := by decide +kernel
theorem dX0_become_39 : decode cX0_become 39 = .ok (.aload_n 1, 1) := by decide +kernel
theorem dX0_become_40 : decode cX0_become 40 = .ok (.getfield 15, 3) := by decide +kernel
theorem dX0_become_43 : decode cX0_become 43 = .ok (.iconst 0, 1) := by decide +kernel
theorem dX0_become_44 : decode cX0_become 44 = .ok (.aload_n 0, 1) := by decide +kernel
theorem dX0_become_45 : decode cX0_become 45 = .ok (.getfield 15, 3) := by decide +kernel
theorem dX0_become_48 : decode cX0_become 48 = .ok (.iconst 0, 1) := by decide +kernel
theorem dX0_become_49 : decode cX0_become 49 = .ok (.bipush 10, 2) := by decide +kernel
theorem dX0_become_51 : decode cX0_become 51 = .ok (.invokestatic 49, 3) := by decide +kernel
theorem dX0_become_54 : decode cX0_become 54 = .ok (.aload_n 1, 1) := by decide +kernel
theorem dX0_become_55 : decode cX0_become 55 = .ok (.getfield 18, 3) := by decide +kernel
theorem dX0_become_58 : decode cX0_become 58 = .ok (.iconst 0, 1) := by decide +kernel
theorem dX0_become_59 : decode cX0_become 59 = .ok (.aload_n 0, 1) := by decide +kernel
theorem dX0_become_60 : decode cX0_become 60 = .ok (.getfield 18, 3) := by decide +kernel
theorem dX0_become_63 : decode cX0_become 63 = .ok (.iconst 0, 1) := by decide +kernel
theorem dX0_become_64 : decode cX0_become 64 = .ok (.bipush 10, 2) := by decide +kernel
theorem dX0_become_66 : decode cX0_become 66 = .ok (.invokestatic 49, 3) := by decide +kernel
theorem dX0_become_69 : decode cX0_become 69 = .ok (.aload_n 1, 1) := by decide +kernel
theorem dX0_become_70 : decode cX0_become 70 = .ok (.getfield 21, 3) := by decide +kernel
theorem dX0_become_73 : decode cX0_become 73 = .ok (.iconst 0, 1) := by decide +kernel
theorem dX0_become_74 : decode cX0_become 74 = .ok (.aload_n 0, 1) := by decide +kernel
theorem dX0_become_75 : decode cX0_become 75 = .ok (.getfield 21, 3) := by decide +kernel
theorem dX0_become_78 : decode cX0_become 78 = .ok (.iconst 0, 1) := by decide +kernel
theorem dX0_become_79 : decode cX0_become 79 = .ok (.bipush 10, 2) := by decide +kernel
theorem dX0_become_81 : decode cX0_become 81 = .ok (.invokestatic 49, 3) := by decide +kernel
theorem dX0_become_84 : decode cX0_become 84 = .ok (.aload_n 1, 1) := by decide +kernel
theorem dX0_become_85 : decode cX0_become 85 = .ok (.getfield 24, 3) := by decide +kernel
theorem dX0_become_88 : decode cX0_become 88 = .ok (.iconst 0, 1) := by decide +kernel
theorem dX0_become_89 : decode cX0_become 89 = .ok (.aload_n 0, 1) := by decide +kernel
theorem dX0_become_90 : decode cX0_become 90 = .ok (.getfield 24, 3) := by decide +kernel
theorem dX0_become_93 : decode cX0_become 93 = .ok (.iconst 0, 1) := by decide +kernel
theorem dX0_become_94 : decode cX0_become 94 = .ok (.bipush 10, 2) := by decide +kernel
theorem dX0_become_96 : decode cX0_become 96 = .ok (.invokestatic 49, 3) := by decide +kernel
theorem dX0_become_99 : decode cX0_become 99 = .ok (.aload_n 1, 1) := by decide +kernel
theorem dX0_become_100 : decode cX0_become 100 = .ok (.getfield 27, 3) := by decide +kernel
theorem dX0_become_103 : decode cX0_become 103 = .ok (.iconst 0, 1) := by decide +kernel
theorem dX0_become_104 : decode cX0_become 104 = .ok (.aload_n 0, 1) := by decide +kernel
theorem dX0_become_105 : decode cX0_become 105 = .ok (.getfield 27, 3) := by decide +kernel
theorem dX0_become_108 : decode cX0_become 108 = .ok (.iconst 0, 1) := by decide +kernel
theorem dX0_become_109 : decode cX0_become 109 = .ok (.bipush 10, 2) := by decide +kernel
theorem dX0_become_111 : decode cX0_become 111 = .ok (.invokestatic 49, 3) := by decide +kernel
theorem dX0_become_114 : decode cX0_become 114 = .ok (.aload_n 1, 1) := by decide +kernel
theorem dX0_become_115 : decode cX0_become 115 = .ok (.getfield 30, 3) := by decide +kernel
theorem dX0_become_118 : decode cX0_become 118 = .ok (.iconst 0, 1) := by decide +kernel
theorem dX0_become_119 : decode cX0_become 119 = .ok (.aload_n 0, 1) := by decide +kernel
theorem dX0_become_120 : decode cX0_become 120 = .ok (.getfield 30, 3) := by decide +kernel
theorem dX0_become_123 : decode cX0_become 123 = .ok (.iconst 0, 1) := by decide +kernel
theorem dX0_become_124 : decode cX0_become 124 = .ok (.bipush 10, 2) := by decide +kernel
theorem dX0_become_126 : decode cX0_become 126 = .ok (.invokestatic 49, 3) := by decide +kernel
theorem dX0_become_129 : decode cX0_become 129 = .ok (.return_, 1) := by decide +kernel
set_option maxHeartbeats 4000000 in
set_option maxRecDepth 100000 in
theorem g_X0_become {E : fh_E} {M : fh_M} (C : fh_Cx E M cX0_become 2 RX0 (none) rm_X0_become) (Hr : fh_Rt E M) (k1 : Nat) (k2 : Nat) (σ3 : fh_S) : fh_Go E M 2 fh_vU 0 [(0, .ref (fh_ad E k1)), (1, .ref (fh_ad E k2))] [] σ3 (f_X0_become k1 k2 σ3) := by
  have hok := fh_cok C
  refine go_ob ?_
  refine go_aload_n C 0 rfl rfl dX0_become_0 ?_
  refine go_aload_n C 1 rfl rfl dX0_become_1 ?_
  refine go_gi (ci := 0) (j := 9) C fh_in0 rfl (by decide) rfl q_46 dX0_become_2 (fun v4 => ?_)
  refine go_pf (ci := 0) (j := 9) C tyX0 tyX0_ok nmX0 fh_in0 rfl (by decide) rfl q_46 rfl rfl dX0_become_5 (fun σ5 => ?_)
  refine go_aload_n C 0 rfl rfl dX0_become_8 ?_
  refine go_aload_n C 1 rfl rfl dX0_become_9 ?_
  refine go_gi (ci := 0) (j := 10) C fh_in0 rfl (by decide) rfl q_49 dX0_become_10 (fun v6 => ?_)
  refine go_pf (ci := 0) (j := 10) C tyX0 tyX0_ok nmX0 fh_in0 rfl (by decide) rfl q_49 rfl rfl dX0_become_13 (fun σ7 => ?_)
  refine go_aload_n C 0 rfl rfl dX0_become_16 ?_
  refine go_aload_n C 1 rfl rfl dX0_become_17 ?_
  refine go_gi (ci := 0) (j := 11) C fh_in0 rfl (by decide) rfl q_51 dX0_become_18 (fun v8 => ?_)
  refine go_pf (ci := 0) (j := 11) C tyX0 tyX0_ok nmX0 fh_in0 rfl (by decide) rfl q_51 rfl rfl dX0_become_21 (fun σ9 => ?_)
  refine go_aload_n C 1 rfl rfl dX0_become_24 ?_
  refine go_gr (ci := 0) (j := 0) C fh_in0 rfl (by decide) rfl q_28 dX0_become_25 (fun k10 => ?_)
  refine go_iconst C (0 : Int32) dX0_become_28 rfl ?_
  refine go_aload_n C 0 rfl rfl dX0_become_29 ?_
  refine go_gr (ci := 0) (j := 0) C fh_in0 rfl (by decide) rfl q_28 dX0_become_30 (fun k11 => ?_)
  refine go_iconst C (0 : Int32) dX0_become_33 rfl ?_
  refine go_bipush C (10 : Int32) dX0_become_34 rfl ?_
  refine go_cp C ⟨q_382, q_384, q_383, q_9⟩ ⟨Nat.le_of_ble_eq_true rfl, Nat.le_of_ble_eq_true rfl⟩ dX0_become_36 (fun σ12 => ?_)
  refine go_aload_n C 1 rfl rfl dX0_become_39 ?_
  refine go_gr (ci := 0) (j := 1) C fh_in0 rfl (by decide) rfl q_30 dX0_become_40 (fun k13 => ?_)
  refine go_iconst C (0 : Int32) dX0_become_43 rfl ?_
  refine go_aload_n C 0 rfl rfl dX0_become_44 ?_
  refine go_gr (ci := 0) (j := 1) C fh_in0 rfl (by decide) rfl q_30 dX0_become_45 (fun k14 => ?_)
  refine go_iconst C (0 : Int32) dX0_become_48 rfl ?_
  refine go_bipush C (10 : Int32) dX0_become_49 rfl ?_
  refine go_cp C ⟨q_382, q_384, q_383, q_9⟩ ⟨Nat.le_of_ble_eq_true rfl, Nat.le_of_ble_eq_true rfl⟩ dX0_become_51 (fun σ15 => ?_)
  refine go_aload_n C 1 rfl rfl dX0_become_54 ?_
  refine go_gr (ci := 0) (j := 2) C fh_in0 rfl (by decide) rfl q_33 dX0_become_55 (fun k16 => ?_)
  refine go_iconst C (0 : Int32) dX0_become_58 rfl ?_
  refine go_aload_n C 0 rfl rfl dX0_become_59 ?_
  refine go_gr (ci := 0) (j := 2) C fh_in0 rfl (by decide) rfl q_33 dX0_become_60 (fun k17 => ?_)
  refine go_iconst C (0 : Int32) dX0_become_63 rfl ?_
  refine go_bipush C (10 : Int32) dX0_become_64 rfl ?_
  refine go_cp C ⟨q_382, q_384, q_383, q_9⟩ ⟨Nat.le_of_ble_eq_true rfl, Nat.le_of_ble_eq_true rfl⟩ dX0_become_66 (fun σ18 => ?_)
  refine go_aload_n C 1 rfl rfl dX0_become_69 ?_
  refine go_gr (ci := 0) (j := 3) C fh_in0 rfl (by decide) rfl q_36 dX0_become_70 (fun k19 => ?_)
  refine go_iconst C (0 : Int32) dX0_become_73 rfl ?_
  refine go_aload_n C 0 rfl rfl dX0_become_74 ?_
  refine go_gr (ci := 0) (j := 3) C fh_in0 rfl (by decide) rfl q_36 dX0_become_75 (fun k20 => ?_)
  refine go_iconst C (0 : Int32) dX0_become_78 rfl ?_
  refine go_bipush C (10 : Int32) dX0_become_79 rfl ?_
  refine go_cp C ⟨q_382, q_384, q_383, q_9⟩ ⟨Nat.le_of_ble_eq_true rfl, Nat.le_of_ble_eq_true rfl⟩ dX0_become_81 (fun σ21 => ?_)
  refine go_aload_n C 1 rfl rfl dX0_become_84 ?_
  refine go_gr (ci := 0) (j := 4) C fh_in0 rfl (by decide) rfl q_39 dX0_become_85 (fun k22 => ?_)
  refine go_iconst C (0 : Int32) dX0_become_88 rfl ?_
  refine go_aload_n C 0 rfl rfl dX0_become_89 ?_
  refine go_gr (ci := 0) (j := 4) C fh_in0 rfl (by decide) rfl q_39 dX0_become_90 (fun k23 => ?_)
  refine go_iconst C (0 : Int32) dX0_become_93 rfl ?_
  refine go_bipush C (10 : Int32) dX0_become_94 rfl ?_
  refine go_cp C ⟨q_382, q_384, q_383, q_9⟩ ⟨Nat.le_of_ble_eq_true rfl, Nat.le_of_ble_eq_true rfl⟩ dX0_become_96 (fun σ24 => ?_)
  refine go_aload_n C 1 rfl rfl dX0_become_99 ?_
  refine go_gr (ci := 0) (j := 5) C fh_in0 rfl (by decide) rfl q_40 dX0_become_100 (fun k25 => ?_)
  refine go_iconst C (0 : Int32) dX0_become_103 rfl ?_
  refine go_aload_n C 0 rfl rfl dX0_become_104 ?_
  refine go_gr (ci := 0) (j := 5) C fh_in0 rfl (by decide) rfl q_40 dX0_become_105 (fun k26 => ?_)
  refine go_iconst C (0 : Int32) dX0_become_108 rfl ?_
  refine go_bipush C (10 : Int32) dX0_become_109 rfl ?_
  refine go_cp C ⟨q_382, q_384, q_383, q_9⟩ ⟨Nat.le_of_ble_eq_true rfl, Nat.le_of_ble_eq_true rfl⟩ dX0_become_111 (fun σ27 => ?_)
  refine go_aload_n C 1 rfl rfl dX0_become_114 ?_
  refine go_gr (ci := 0) (j := 6) C fh_in0 rfl (by decide) rfl q_42 dX0_become_115 (fun k28 => ?_)
  refine go_iconst C (0 : Int32) dX0_become_118 rfl ?_
  refine go_aload_n C 0 rfl rfl dX0_become_119 ?_
  refine go_gr (ci := 0) (j := 6) C fh_in0 rfl (by decide) rfl q_42 dX0_become_120 (fun k29 => ?_)
  refine go_iconst C (0 : Int32) dX0_become_123 rfl ?_
  refine go_bipush C (10 : Int32) dX0_become_124 rfl ?_
  refine go_cp C ⟨q_382, q_384, q_383, q_9⟩ ⟨Nat.le_of_ble_eq_true rfl, Nat.le_of_ble_eq_true rfl⟩ dX0_become_126 (fun σ30 => ?_)
  exact go_vret C Hr rfl dX0_become_129
theorem m_X0_become (E : fh_E) (l : Launch) (hok : fh_ok E) (k1 : Nat) (k2 : Nat) (σ3 : fh_S) : fh_Met E l yX0_become cX0_become 2 (none) rm_X0_become fh_vU [.ref (fh_ad E k1), .ref (fh_ad E k2)] σ3 (f_X0_become k1 k2 σ3) := fh_met hok (by decide +kernel) (Nat.le_of_ble_eq_true rfl) (fun M _ C Hr => g_X0_become C Hr k1 k2 σ3)
def f_X0_has (k1 : Nat) (a2 : Int32) (σ3 : fh_S) : Option (Int32 × fh_S) := fh_ob 0 k1 (if a2 < 0 then fh_rz ((0 : Int32)) σ3 else (fh_gi σ3 0 k1 9).bind fun v4 => if v4 ≤ a2 then fh_rz ((0 : Int32)) σ3 else fh_rz ((1 : Int32)) σ3)
abbrev rm_X0_has : Room := { frames := 0, cells := 0, slots := 0, locals := 0 }
theorem pd_X0_has : yX0_has.cls ≠ "java/lang/invoke/MethodHandle" ∧ yX0_has.cls ≠ "java/lang/invoke/VarHandle" ∧ (parseMethodDescriptor yX0_has.desc).map (fun d => d.parameters.length) = some 1 := by decide +kernel
theorem dX0_has_0 : decode cX0_has 0 = .ok (.iload_n 1, 1) := by decide +kernel
theorem dX0_has_1 : decode cX0_has 1 = .ok (.ifCond .lt 15, 3) := by decide +kernel
theorem dX0_has_4 : decode cX0_has 4 = .ok (.iload_n 1, 1) := by decide +kernel
theorem dX0_has_5 : decode cX0_has 5 = .ok (.aload_n 0, 1) := by decide +kernel
theorem dX0_has_6 : decode cX0_has 6 = .ok (.getfield 39, 3) := by decide +kernel
theorem dX0_has_9 : decode cX0_has 9 = .ok (.if_icmp .ge 7, 3) := by decide +kernel
theorem dX0_has_12 : decode cX0_has 12 = .ok (.iconst 1, 1) := by decide +kernel
theorem dX0_has_13 : decode cX0_has 13 = .ok (.goto 4, 3) := by decide +kernel
theorem dX0_has_16 : decode cX0_has 16 = .ok (.iconst 0, 1) := by decide +kernel
theorem dX0_has_17 : decode cX0_has 17 = .ok (.ireturn, 1) := by decide +kernel
set_option maxHeartbeats 4000000 in
set_option maxRecDepth 100000 in
theorem g_X0_has {E : fh_E} {M : fh_M} (C : fh_Cx E M cX0_has 2 RX0 ((some FieldType.boolean)) rm_X0_has) (Hr : fh_Rt E M) (k1 : Nat) (a2 : Int32) (σ3 : fh_S) : fh_Go E M 2 fh_vI 0 [(0, .ref (fh_ad E k1)), (1, .int a2)] [] σ3 (f_X0_has k1 a2 σ3) := by
  have hok := fh_cok C
  refine go_ob ?_
  refine go_iload_n C 1 rfl rfl dX0_has_0 ?_
  refine go_if_lt (tgt := 16) C dX0_has_1 rfl (fun _ => ?_) (fun _ => ?_)
  · refine go_iconst C (0 : Int32) dX0_has_16 rfl ?_
    exact go_zret C Hr dX0_has_17
  · refine go_iload_n C 1 rfl rfl dX0_has_4 ?_
    refine go_aload_n C 0 rfl rfl dX0_has_5 ?_
    refine go_gi (ci := 0) (j := 9) C fh_in0 rfl (by decide) rfl q_46 dX0_has_6 (fun v4 => ?_)
    refine go_icmp_ge (tgt := 16) C dX0_has_9 rfl (fun _ => ?_) (fun _ => ?_)
    · refine go_iconst C (0 : Int32) dX0_has_16 rfl ?_
      exact go_zret C Hr dX0_has_17
    · refine go_iconst C (1 : Int32) dX0_has_12 rfl ?_
      refine go_goto C 17 dX0_has_13 rfl ?_
      exact go_zret C Hr dX0_has_17
theorem m_X0_has (E : fh_E) (l : Launch) (hok : fh_ok E) (k1 : Nat) (a2 : Int32) (σ3 : fh_S) : fh_Met E l yX0_has cX0_has 2 ((some FieldType.boolean)) rm_X0_has fh_vI [.ref (fh_ad E k1), .int a2] σ3 (f_X0_has k1 a2 σ3) := fh_met hok (by decide +kernel) (Nat.le_of_ble_eq_true rfl) (fun M _ C Hr => g_X0_has C Hr k1 a2 σ3)
def f_X0_isFull (k1 : Nat) (σ2 : fh_S) : Option (Int32 × fh_S) := fh_ob 0 k1 ((fh_gi σ2 0 k1 9).bind fun v3 => if v3 < ((10 : Int32)) then fh_rz ((0 : Int32)) σ2 else fh_rz ((1 : Int32)) σ2)
abbrev rm_X0_isFull : Room := { frames := 0, cells := 0, slots := 0, locals := 0 }
theorem pd_X0_isFull : yX0_isFull.cls ≠ "java/lang/invoke/MethodHandle" ∧ yX0_isFull.cls ≠ "java/lang/invoke/VarHandle" ∧ (parseMethodDescriptor yX0_isFull.desc).map (fun d => d.parameters.length) = some 0 := by decide +kernel
theorem dX0_isFull_0 : decode cX0_isFull 0 = .ok (.aload_n 0, 1) := by decide +kernel
theorem dX0_isFull_1 : decode cX0_isFull 1 = .ok (.getfield 39, 3) := by decide +kernel
theorem dX0_isFull_4 : decode cX0_isFull 4 = .ok (.bipush 10, 2) := by decide +kernel
theorem dX0_isFull_6 : decode cX0_isFull 6 = .ok (.if_icmp .lt 7, 3) := by decide +kernel
theorem dX0_isFull_9 : decode cX0_isFull 9 = .ok (.iconst 1, 1) := by decide +kernel
theorem dX0_isFull_10 : decode cX0_isFull 10 = .ok (.goto 4, 3) := by decide +kernel
theorem dX0_isFull_13 : decode cX0_isFull 13 = .ok (.iconst 0, 1) := by decide +kernel
theorem dX0_isFull_14 : decode cX0_isFull 14 = .ok (.ireturn, 1) := by decide +kernel
set_option maxHeartbeats 4000000 in
set_option maxRecDepth 100000 in
theorem g_X0_isFull {E : fh_E} {M : fh_M} (C : fh_Cx E M cX0_isFull 1 RX0 ((some FieldType.boolean)) rm_X0_isFull) (Hr : fh_Rt E M) (k1 : Nat) (σ2 : fh_S) : fh_Go E M 1 fh_vI 0 [(0, .ref (fh_ad E k1))] [] σ2 (f_X0_isFull k1 σ2) := by
  have hok := fh_cok C
  refine go_ob ?_
  refine go_aload_n C 0 rfl rfl dX0_isFull_0 ?_
  refine go_gi (ci := 0) (j := 9) C fh_in0 rfl (by decide) rfl q_46 dX0_isFull_1 (fun v3 => ?_)
  refine go_bipush C (10 : Int32) dX0_isFull_4 rfl ?_
  refine go_icmp_lt (tgt := 13) C dX0_isFull_6 rfl (fun _ => ?_) (fun _ => ?_)
  · refine go_iconst C (0 : Int32) dX0_isFull_13 rfl ?_
    exact go_zret C Hr dX0_isFull_14
  · refine go_iconst C (1 : Int32) dX0_isFull_9 rfl ?_
    refine go_goto C 14 dX0_isFull_10 rfl ?_
    exact go_zret C Hr dX0_isFull_14
theorem m_X0_isFull (E : fh_E) (l : Launch) (hok : fh_ok E) (k1 : Nat) (σ2 : fh_S) : fh_Met E l yX0_isFull cX0_isFull 1 ((some FieldType.boolean)) rm_X0_isFull fh_vI [.ref (fh_ad E k1)] σ2 (f_X0_isFull k1 σ2) := fh_met hok (by decide +kernel) (Nat.le_of_ble_eq_true rfl) (fun M _ C Hr => g_X0_isFull C Hr k1 σ2)
def f_J9_min_7cf53 (a1 : Int32) (a2 : Int32) (σ3 : fh_S) : Option (Int32 × fh_S) := if a2 < a1 then some (a2, σ3) else some (a1, σ3)
abbrev rm_J9_min_7cf53 : Room := { frames := 0, cells := 0, slots := 0, locals := 0 }
theorem pd_J9_min_7cf53 : yJ9_min_7cf53.cls ≠ "java/lang/invoke/MethodHandle" ∧ yJ9_min_7cf53.cls ≠ "java/lang/invoke/VarHandle" ∧ (parseMethodDescriptor yJ9_min_7cf53.desc).map (fun d => d.parameters.length) = some 2 := by decide +kernel
theorem dJ9_min_7cf53_0 : decode cJ9_min_7cf53 0 = .ok (.iload_n 0, 1) := by decide +kernel
theorem dJ9_min_7cf53_1 : decode cJ9_min_7cf53 1 = .ok (.iload_n 1, 1) := by decide +kernel
theorem dJ9_min_7cf53_2 : decode cJ9_min_7cf53 2 = .ok (.if_icmp .gt 7, 3) := by decide +kernel
theorem dJ9_min_7cf53_5 : decode cJ9_min_7cf53 5 = .ok (.iload_n 0, 1) := by decide +kernel
theorem dJ9_min_7cf53_6 : decode cJ9_min_7cf53 6 = .ok (.goto 4, 3) := by decide +kernel
theorem dJ9_min_7cf53_9 : decode cJ9_min_7cf53 9 = .ok (.iload_n 1, 1) := by decide +kernel
theorem dJ9_min_7cf53_10 : decode cJ9_min_7cf53 10 = .ok (.ireturn, 1) := by decide +kernel
set_option maxHeartbeats 4000000 in
set_option maxRecDepth 100000 in
theorem g_J9_min_7cf53 {E : fh_E} {M : fh_M} (C : fh_Cx E M cJ9_min_7cf53 2 RJ9 ((some FieldType.int)) rm_J9_min_7cf53) (Hr : fh_Rt E M) (a1 : Int32) (a2 : Int32) (σ3 : fh_S) : fh_Go E M 2 fh_vI 0 [(0, .int a1), (1, .int a2)] [] σ3 (f_J9_min_7cf53 a1 a2 σ3) := by
  have hok := fh_cok C
  refine go_iload_n C 0 rfl rfl dJ9_min_7cf53_0 ?_
  refine go_iload_n C 1 rfl rfl dJ9_min_7cf53_1 ?_
  refine go_icmp_gt (tgt := 9) C dJ9_min_7cf53_2 rfl (fun _ => ?_) (fun _ => ?_)
  · refine go_iload_n C 1 rfl rfl dJ9_min_7cf53_9 ?_
    exact go_iret C Hr rfl dJ9_min_7cf53_10
  · refine go_iload_n C 0 rfl rfl dJ9_min_7cf53_5 ?_
    refine go_goto C 10 dJ9_min_7cf53_6 rfl ?_
    exact go_iret C Hr rfl dJ9_min_7cf53_10
theorem m_J9_min_7cf53 (E : fh_E) (l : Launch) (hok : fh_ok E) (a1 : Int32) (a2 : Int32) (σ3 : fh_S) : fh_Met E l yJ9_min_7cf53 cJ9_min_7cf53 2 ((some FieldType.int)) rm_J9_min_7cf53 fh_vI [.int a1, .int a2] σ3 (f_J9_min_7cf53 a1 a2 σ3) := fh_met hok (by decide +kernel) (Nat.le_of_ble_eq_true rfl) (fun M _ C Hr => g_J9_min_7cf53 C Hr a1 a2 σ3)
def f_X0_add (k1 : Nat) (a2 : Int32) (σ3 : fh_S) : Option (Int32 × fh_S) := fh_ob 0 k1 ((fh_gi σ3 0 k1 9).bind fun v4 => fh_cb (f_J9_min_7cf53 v4 ((9 : Int32)) σ3) fun r6 σ5 => (fh_gr 0 k1 0).bind fun k7 => (fh_st σ5 k7 r6 a2).bind fun σ8 => (fh_gr 0 k1 1).bind fun k9 => (fh_st σ8 k9 r6 ((0 : Int32))).bind fun σ10 => (fh_gr 0 k1 2).bind fun k11 => (fh_st σ10 k11 r6 r6).bind fun σ12 => (fh_gr 0 k1 3).bind fun k13 => (fh_st σ12 k13 r6 ((1 : Int32))).bind fun σ14 => (fh_gr 0 k1 4).bind fun k15 => (fh_st σ14 k15 r6 ((0 : Int32))).bind fun σ16 => (fh_gr 0 k1 5).bind fun k17 => (fh_st σ16 k17 r6 ((0 : Int32))).bind fun σ18 => (fh_pf σ18 0 k1 9 (r6 + ((1 : Int32)))).bind fun σ19 => some (r6, σ19))
abbrev rm_X0_add : Room := { frames := 1, cells := 0, slots := 0, locals := 21 }
theorem pd_X0_add : yX0_add.cls ≠ "java/lang/invoke/MethodHandle" ∧ yX0_add.cls ≠ "java/lang/invoke/VarHandle" ∧ (parseMethodDescriptor yX0_add.desc).map (fun d => d.parameters.length) = some 1 := by decide +kernel
theorem dX0_add_0 : decode cX0_add 0 = .ok (.aload_n 0, 1) := by decide +kernel
theorem dX0_add_1 : decode cX0_add 1 = .ok (.getfield 39, 3) := by decide +kernel
theorem dX0_add_4 : decode cX0_add 4 = .ok (.bipush 9, 2) := by decide +kernel
theorem dX0_add_6 : decode cX0_add 6 = .ok (.invokestatic 55, 3) := by decide +kernel
theorem dX0_add_9 : decode cX0_add 9 = .ok (.istore_n 2, 1) := by decide +kernel
theorem dX0_add_10 : decode cX0_add 10 = .ok (.aload_n 0, 1) := by decide +kernel
theorem dX0_add_11 : decode cX0_add 11 = .ok (.getfield 9, 3) := by decide +kernel
theorem dX0_add_14 : decode cX0_add 14 = .ok (.iload_n 2, 1) := by decide +kernel
theorem dX0_add_15 : decode cX0_add 15 = .ok (.iload_n 1, 1) := by decide +kernel
theorem dX0_add_16 : decode cX0_add 16 = .ok (.iastore, 1) := by decide +kernel
theorem dX0_add_17 : decode cX0_add 17 = .ok (.aload_n 0, 1) := by decide +kernel
theorem dX0_add_18 : decode cX0_add 18 = .ok (.getfield 15, 3) := by decide +kernel
theorem dX0_add_21 : decode cX0_add 21 = .ok (.iload_n 2, 1) := by decide +kernel
theorem dX0_add_22 : decode cX0_add 22 = .ok (.iconst 0, 1) := by decide +kernel
theorem dX0_add_23 : decode cX0_add 23 = .ok (.iastore, 1) := by decide +kernel
theorem dX0_add_24 : decode cX0_add 24 = .ok (.aload_n 0, 1) := by decide +kernel
theorem dX0_add_25 : decode cX0_add 25 = .ok (.getfield 18, 3) := by decide +kernel
theorem dX0_add_28 : decode cX0_add 28 = .ok (.iload_n 2, 1) := by decide +kernel
theorem dX0_add_29 : decode cX0_add 29 = .ok (.iload_n 2, 1) := by decide +kernel
theorem dX0_add_30 : decode cX0_add 30 = .ok (.iastore, 1) := by decide +kernel
theorem dX0_add_31 : decode cX0_add 31 = .ok (.aload_n 0, 1) := by decide +kernel
theorem dX0_add_32 : decode cX0_add 32 = .ok (.getfield 21, 3) := by decide +kernel
theorem dX0_add_35 : decode cX0_add 35 = .ok (.iload_n 2, 1) := by decide +kernel
theorem dX0_add_36 : decode cX0_add 36 = .ok (.iconst 1, 1) := by decide +kernel
theorem dX0_add_37 : decode cX0_add 37 = .ok (.iastore, 1) := by decide +kernel
theorem dX0_add_38 : decode cX0_add 38 = .ok (.aload_n 0, 1) := by decide +kernel
theorem dX0_add_39 : decode cX0_add 39 = .ok (.getfield 24, 3) := by decide +kernel
theorem dX0_add_42 : decode cX0_add 42 = .ok (.iload_n 2, 1) := by decide +kernel
theorem dX0_add_43 : decode cX0_add 43 = .ok (.iconst 0, 1) := by decide +kernel
theorem dX0_add_44 : decode cX0_add 44 = .ok (.iastore, 1) := by decide +kernel
theorem dX0_add_45 : decode cX0_add 45 = .ok (.aload_n 0, 1) := by decide +kernel
theorem dX0_add_46 : decode cX0_add 46 = .ok (.getfield 27, 3) := by decide +kernel
theorem dX0_add_49 : decode cX0_add 49 = .ok (.iload_n 2, 1) := by decide +kernel
theorem dX0_add_50 : decode cX0_add 50 = .ok (.iconst 0, 1) := by decide +kernel
theorem dX0_add_51 : decode cX0_add 51 = .ok (.iastore, 1) := by decide +kernel
theorem dX0_add_52 : decode cX0_add 52 = .ok (.aload_n 0, 1) := by decide +kernel
theorem dX0_add_53 : decode cX0_add 53 = .ok (.iload_n 2, 1) := by decide +kernel
theorem dX0_add_54 : decode cX0_add 54 = .ok (.iconst 1, 1) := by decide +kernel
theorem dX0_add_55 : decode cX0_add 55 = .ok (.iadd, 1) := by decide +kernel
theorem dX0_add_56 : decode cX0_add 56 = .ok (.putfield 39, 3) := by decide +kernel
theorem dX0_add_59 : decode cX0_add 59 = .ok (.iload_n 2, 1) := by decide +kernel
theorem dX0_add_60 : decode cX0_add 60 = .ok (.ireturn, 1) := by decide +kernel
set_option maxHeartbeats 4000000 in
set_option maxRecDepth 100000 in
theorem g_X0_add {E : fh_E} {M : fh_M} (C : fh_Cx E M cX0_add 3 RX0 ((some FieldType.int)) rm_X0_add) (Hr : fh_Rt E M) (k1 : Nat) (a2 : Int32) (σ3 : fh_S) : fh_Go E M 3 fh_vI 0 [(0, .ref (fh_ad E k1)), (1, .int a2)] [] σ3 (f_X0_add k1 a2 σ3) := by
  have hok := fh_cok C
  refine go_ob ?_
  refine go_aload_n C 0 rfl rfl dX0_add_0 ?_
  refine go_gi (ci := 0) (j := 9) C fh_in0 rfl (by decide) rfl q_46 dX0_add_1 (fun v4 => ?_)
  refine go_bipush C (9 : Int32) dX0_add_4 rfl ?_
  refine go_callSI C (st := []) [.int v4, .int ((9 : Int32))] (m_J9_min_7cf53 E _ hok v4 ((9 : Int32)) σ3) rfl ⟨q_189, q_190, q_7, q_191⟩ pd_J9_min_7cf53 rfl ⟨⟨Nat.le_of_ble_eq_true rfl, Nat.le_of_ble_eq_true rfl⟩, rfl, rfl⟩ (Nat.le_of_ble_eq_true rfl) dX0_add_6 (fun r6 σ5 => ?_)
  refine go_istore_n C [(2, .int r6), (0, .ref (fh_ad E k1)), (1, .int a2)] rfl rfl (by decide) dX0_add_9 ?_
  refine go_aload_n C 1 rfl rfl dX0_add_10 ?_
  refine go_gr (ci := 0) (j := 0) C fh_in0 rfl (by decide) rfl q_28 dX0_add_11 (fun k7 => ?_)
  refine go_iload_n C 0 rfl rfl dX0_add_14 ?_
  refine go_iload_n C 2 rfl rfl dX0_add_15 ?_
  refine go_iast C dX0_add_16 (fun σ8 => ?_)
  refine go_aload_n C 1 rfl rfl dX0_add_17 ?_
  refine go_gr (ci := 0) (j := 1) C fh_in0 rfl (by decide) rfl q_30 dX0_add_18 (fun k9 => ?_)
  refine go_iload_n C 0 rfl rfl dX0_add_21 ?_
  refine go_iconst C (0 : Int32) dX0_add_22 rfl ?_
  refine go_iast C dX0_add_23 (fun σ10 => ?_)
  refine go_aload_n C 1 rfl rfl dX0_add_24 ?_
  refine go_gr (ci := 0) (j := 2) C fh_in0 rfl (by decide) rfl q_33 dX0_add_25 (fun k11 => ?_)
  refine go_iload_n C 0 rfl rfl dX0_add_28 ?_
  refine go_iload_n C 0 rfl rfl dX0_add_29 ?_
  refine go_iast C dX0_add_30 (fun σ12 => ?_)
  refine go_aload_n C 1 rfl rfl dX0_add_31 ?_
  refine go_gr (ci := 0) (j := 3) C fh_in0 rfl (by decide) rfl q_36 dX0_add_32 (fun k13 => ?_)
  refine go_iload_n C 0 rfl rfl dX0_add_35 ?_
  refine go_iconst C (1 : Int32) dX0_add_36 rfl ?_
  refine go_iast C dX0_add_37 (fun σ14 => ?_)
  refine go_aload_n C 1 rfl rfl dX0_add_38 ?_
  refine go_gr (ci := 0) (j := 4) C fh_in0 rfl (by decide) rfl q_39 dX0_add_39 (fun k15 => ?_)
  refine go_iload_n C 0 rfl rfl dX0_add_42 ?_
  refine go_iconst C (0 : Int32) dX0_add_43 rfl ?_
  refine go_iast C dX0_add_44 (fun σ16 => ?_)
  refine go_aload_n C 1 rfl rfl dX0_add_45 ?_
  refine go_gr (ci := 0) (j := 5) C fh_in0 rfl (by decide) rfl q_40 dX0_add_46 (fun k17 => ?_)
  refine go_iload_n C 0 rfl rfl dX0_add_49 ?_
  refine go_iconst C (0 : Int32) dX0_add_50 rfl ?_
  refine go_iast C dX0_add_51 (fun σ18 => ?_)
  refine go_aload_n C 1 rfl rfl dX0_add_52 ?_
  refine go_iload_n C 0 rfl rfl dX0_add_53 ?_
  refine go_iconst C (1 : Int32) dX0_add_54 rfl ?_
  refine go_iadd C dX0_add_55 ?_
  refine go_pf (ci := 0) (j := 9) C tyX0 tyX0_ok nmX0 fh_in0 rfl (by decide) rfl q_46 rfl rfl dX0_add_56 (fun σ19 => ?_)
  refine go_iload_n C 0 rfl rfl dX0_add_59 ?_
  exact go_iret C Hr rfl dX0_add_60
theorem m_X0_add (E : fh_E) (l : Launch) (hok : fh_ok E) (k1 : Nat) (a2 : Int32) (σ3 : fh_S) : fh_Met E l yX0_add cX0_add 3 ((some FieldType.int)) rm_X0_add fh_vI [.ref (fh_ad E k1), .int a2] σ3 (f_X0_add k1 a2 σ3) := fh_met hok (by decide +kernel) (Nat.le_of_ble_eq_true rfl) (fun M _ C Hr => g_X0_add C Hr k1 a2 σ3)
def f_X0_rowOf (k1 : Nat) (a2 : Int32) (σ3 : fh_S) : Option (Option Nat × fh_S) := fh_ob 0 k1 (if a2 = (0 : Int32) then (fh_gr 0 k1 0).bind fun k4 => some (some k4, σ3) else if a2 = (1 : Int32) then (fh_gr 0 k1 1).bind fun k6 => some (some k6, σ3) else if a2 = (2 : Int32) then (fh_gr 0 k1 2).bind fun k8 => some (some k8, σ3) else if a2 = (3 : Int32) then (fh_gr 0 k1 3).bind fun k10 => some (some k10, σ3) else if a2 = (4 : Int32) then (fh_gr 0 k1 4).bind fun k12 => some (some k12, σ3) else if a2 = (5 : Int32) then (fh_gr 0 k1 5).bind fun k14 => some (some k14, σ3) else some (none, σ3))
abbrev rm_X0_rowOf : Room := { frames := 0, cells := 0, slots := 0, locals := 0 }
theorem pd_X0_rowOf : yX0_rowOf.cls ≠ "java/lang/invoke/MethodHandle" ∧ yX0_rowOf.cls ≠ "java/lang/invoke/VarHandle" ∧ (parseMethodDescriptor yX0_rowOf.desc).map (fun d => d.parameters.length) = some 1 := by decide +kernel
theorem dX0_rowOf_0 : decode cX0_rowOf 0 = .ok (.iload_n 1, 1) := by decide +kernel
theorem dX0_rowOf_1 : decode cX0_rowOf 1 = .ok (.tableswitch 69 0 5 #[39, 44, 49, 54, 59, 64], 39) := by decide +kernel
theorem dX0_rowOf_40 : decode cX0_rowOf 40 = .ok (.aload_n 0, 1) := by decide +kernel
theorem dX0_rowOf_41 : decode cX0_rowOf 41 = .ok (.getfield 9, 3) := by decide +kernel
theorem dX0_rowOf_44 : decode cX0_rowOf 44 = .ok (.areturn, 1) := by decide +kernel
theorem dX0_rowOf_45 : decode cX0_rowOf 45 = .ok (.aload_n 0, 1) := by decide +kernel
theorem dX0_rowOf_46 : decode cX0_rowOf 46 = .ok (.getfield 15, 3) := by decide +kernel
theorem dX0_rowOf_49 : decode cX0_rowOf 49 = .ok (.areturn, 1) := by decide +kernel
theorem dX0_rowOf_50 : decode cX0_rowOf 50 = .ok (.aload_n 0, 1) := by decide +kernel
theorem dX0_rowOf_51 : decode cX0_rowOf 51 = .ok (.getfield 18, 3) := by decide +kernel
theorem dX0_rowOf_54 : decode cX0_rowOf 54 = .ok (.areturn, 1) := by decide +kernel
theorem dX0_rowOf_55 : decode cX0_rowOf 55 = .ok (.aload_n 0, 1) := by decide +kernel
theorem dX0_rowOf_56 : decode cX0_rowOf 56 = .ok (.getfield 21, 3) := by decide +kernel
theorem dX0_rowOf_59 : decode cX0_rowOf 59 = .ok (.areturn, 1) := by decide +kernel
theorem dX0_rowOf_60 : decode cX0_rowOf 60 = .ok (.aload_n 0, 1) := by decide +kernel
theorem dX0_rowOf_61 : decode cX0_rowOf 61 = .ok (.getfield 24, 3) := by decide +kernel
theorem dX0_rowOf_64 : decode cX0_rowOf 64 = .ok (.areturn, 1) := by decide +kernel
theorem dX0_rowOf_65 : decode cX0_rowOf 65 = .ok (.aload_n 0, 1) := by decide +kernel
theorem dX0_rowOf_66 : decode cX0_rowOf 66 = .ok (.getfield 27, 3) := by decide +kernel
theorem dX0_rowOf_69 : decode cX0_rowOf 69 = .ok (.areturn, 1) := by decide +kernel
theorem dX0_rowOf_70 : decode cX0_rowOf 70 = .ok (.aconst_null, 1) := by decide +kernel
theorem dX0_rowOf_71 : decode cX0_rowOf 71 = .ok (.areturn, 1) := by decide +kernel
set_option maxHeartbeats 4000000 in
set_option maxRecDepth 100000 in
theorem g_X0_rowOf {E : fh_E} {M : fh_M} (C : fh_Cx E M cX0_rowOf 2 RX0 ((some (FieldType.array FieldType.int))) rm_X0_rowOf) (Hr : fh_Rt E M) (k1 : Nat) (a2 : Int32) (σ3 : fh_S) : fh_Go E M 2 (fh_vR E) 0 [(0, .ref (fh_ad E k1)), (1, .int a2)] [] σ3 (f_X0_rowOf k1 a2 σ3) := by
  have hok := fh_cok C
  refine go_ob ?_
  refine go_iload_n C 1 rfl rfl dX0_rowOf_0 ?_
  refine go_sw C (0 : Int32) 40 dX0_rowOf_1 (by decide) (by decide) rfl rfl ?_ (fun hn5 => ?_)
  · refine go_aload_n C 0 rfl rfl dX0_rowOf_40 ?_
    refine go_gr (ci := 0) (j := 0) C fh_in0 rfl (by decide) rfl q_28 dX0_rowOf_41 (fun k4 => ?_)
    exact go_aret C Hr rfl dX0_rowOf_44
  refine go_sw C (1 : Int32) 45 dX0_rowOf_1 (by decide) (by decide) rfl rfl ?_ (fun hn7 => ?_)
  · refine go_aload_n C 0 rfl rfl dX0_rowOf_45 ?_
    refine go_gr (ci := 0) (j := 1) C fh_in0 rfl (by decide) rfl q_30 dX0_rowOf_46 (fun k6 => ?_)
    exact go_aret C Hr rfl dX0_rowOf_49
  refine go_sw C (2 : Int32) 50 dX0_rowOf_1 (by decide) (by decide) rfl rfl ?_ (fun hn9 => ?_)
  · refine go_aload_n C 0 rfl rfl dX0_rowOf_50 ?_
    refine go_gr (ci := 0) (j := 2) C fh_in0 rfl (by decide) rfl q_33 dX0_rowOf_51 (fun k8 => ?_)
    exact go_aret C Hr rfl dX0_rowOf_54
  refine go_sw C (3 : Int32) 55 dX0_rowOf_1 (by decide) (by decide) rfl rfl ?_ (fun hn11 => ?_)
  · refine go_aload_n C 0 rfl rfl dX0_rowOf_55 ?_
    refine go_gr (ci := 0) (j := 3) C fh_in0 rfl (by decide) rfl q_36 dX0_rowOf_56 (fun k10 => ?_)
    exact go_aret C Hr rfl dX0_rowOf_59
  refine go_sw C (4 : Int32) 60 dX0_rowOf_1 (by decide) (by decide) rfl rfl ?_ (fun hn13 => ?_)
  · refine go_aload_n C 0 rfl rfl dX0_rowOf_60 ?_
    refine go_gr (ci := 0) (j := 4) C fh_in0 rfl (by decide) rfl q_39 dX0_rowOf_61 (fun k12 => ?_)
    exact go_aret C Hr rfl dX0_rowOf_64
  refine go_sw C (5 : Int32) 65 dX0_rowOf_1 (by decide) (by decide) rfl rfl ?_ (fun hn15 => ?_)
  · refine go_aload_n C 0 rfl rfl dX0_rowOf_65 ?_
    refine go_gr (ci := 0) (j := 5) C fh_in0 rfl (by decide) rfl q_40 dX0_rowOf_66 (fun k14 => ?_)
    exact go_aret C Hr rfl dX0_rowOf_69
  refine go_swd C 70 dX0_rowOf_1 (by have hh0 := fh_ne (z := 0) hn5 (by decide); have hh1 := fh_ne (z := 1) hn7 (by decide); have hh2 := fh_ne (z := 2) hn9 (by decide); have hh3 := fh_ne (z := 3) hn11 (by decide); have hh4 := fh_ne (z := 4) hn13 (by decide); have hh5 := fh_ne (z := 5) hn15 (by decide); omega) rfl ?_
  refine go_null C dX0_rowOf_70 ?_
  exact go_aretN C Hr rfl dX0_rowOf_71
theorem m_X0_rowOf (E : fh_E) (l : Launch) (hok : fh_ok E) (k1 : Nat) (a2 : Int32) (σ3 : fh_S) : fh_Met E l yX0_rowOf cX0_rowOf 2 ((some (FieldType.array FieldType.int))) rm_X0_rowOf (fh_vR E) [.ref (fh_ad E k1), .int a2] σ3 (f_X0_rowOf k1 a2 σ3) := fh_met hok (by decide +kernel) (Nat.le_of_ble_eq_true rfl) (fun M _ C Hr => g_X0_rowOf C Hr k1 a2 σ3)
def f_X4_isWithin (a1 : Int32) (a2 : Int32) (a3 : Int32) (σ4 : fh_S) : Option (Int32 × fh_S) := if a1 < a2 then fh_rz ((0 : Int32)) σ4 else if a3 < a1 then fh_rz ((0 : Int32)) σ4 else fh_rz ((1 : Int32)) σ4
abbrev rm_X4_isWithin : Room := { frames := 0, cells := 0, slots := 0, locals := 0 }
theorem pd_X4_isWithin : yX4_isWithin.cls ≠ "java/lang/invoke/MethodHandle" ∧ yX4_isWithin.cls ≠ "java/lang/invoke/VarHandle" ∧ (parseMethodDescriptor yX4_isWithin.desc).map (fun d => d.parameters.length) = some 3 := by decide +kernel
theorem dX4_isWithin_0 : decode cX4_isWithin 0 = .ok (.iload_n 0, 1) := by decide +kernel
theorem dX4_isWithin_1 : decode cX4_isWithin 1 = .ok (.iload_n 1, 1) := by decide +kernel
theorem dX4_isWithin_2 : decode cX4_isWithin 2 = .ok (.if_icmp .lt 12, 3) := by decide +kernel
theorem dX4_isWithin_5 : decode cX4_isWithin 5 = .ok (.iload_n 0, 1) := by decide +kernel
theorem dX4_isWithin_6 : decode cX4_isWithin 6 = .ok (.iload_n 2, 1) := by decide +kernel
theorem dX4_isWithin_7 : decode cX4_isWithin 7 = .ok (.if_icmp .gt 7, 3) := by decide +kernel
theorem dX4_isWithin_10 : decode cX4_isWithin 10 = .ok (.iconst 1, 1) := by decide +kernel
theorem dX4_isWithin_11 : decode cX4_isWithin 11 = .ok (.goto 4, 3) := by decide +kernel
theorem dX4_isWithin_14 : decode cX4_isWithin 14 = .ok (.iconst 0, 1) := by decide +kernel
theorem dX4_isWithin_15 : decode cX4_isWithin 15 = .ok (.ireturn, 1) := by decide +kernel
set_option maxHeartbeats 4000000 in
set_option maxRecDepth 100000 in
theorem g_X4_isWithin {E : fh_E} {M : fh_M} (C : fh_Cx E M cX4_isWithin 3 RX4 ((some FieldType.boolean)) rm_X4_isWithin) (Hr : fh_Rt E M) (a1 : Int32) (a2 : Int32) (a3 : Int32) (σ4 : fh_S) : fh_Go E M 3 fh_vI 0 [(0, .int a1), (1, .int a2), (2, .int a3)] [] σ4 (f_X4_isWithin a1 a2 a3 σ4) := by
  have hok := fh_cok C
  refine go_iload_n C 0 rfl rfl dX4_isWithin_0 ?_
  refine go_iload_n C 1 rfl rfl dX4_isWithin_1 ?_
  refine go_icmp_lt (tgt := 14) C dX4_isWithin_2 rfl (fun _ => ?_) (fun _ => ?_)
  · refine go_iconst C (0 : Int32) dX4_isWithin_14 rfl ?_
    exact go_zret C Hr dX4_isWithin_15
  · refine go_iload_n C 0 rfl rfl dX4_isWithin_5 ?_
    refine go_iload_n C 2 rfl rfl dX4_isWithin_6 ?_
    refine go_icmp_gt (tgt := 14) C dX4_isWithin_7 rfl (fun _ => ?_) (fun _ => ?_)
    · refine go_iconst C (0 : Int32) dX4_isWithin_14 rfl ?_
      exact go_zret C Hr dX4_isWithin_15
    · refine go_iconst C (1 : Int32) dX4_isWithin_10 rfl ?_
      refine go_goto C 15 dX4_isWithin_11 rfl ?_
      exact go_zret C Hr dX4_isWithin_15
theorem m_X4_isWithin (E : fh_E) (l : Launch) (hok : fh_ok E) (a1 : Int32) (a2 : Int32) (a3 : Int32) (σ4 : fh_S) : fh_Met E l yX4_isWithin cX4_isWithin 3 ((some FieldType.boolean)) rm_X4_isWithin fh_vI [.int a1, .int a2, .int a3] σ4 (f_X4_isWithin a1 a2 a3 σ4) := fh_met hok (by decide +kernel) (Nat.le_of_ble_eq_true rfl) (fun M _ C Hr => g_X4_isWithin C Hr a1 a2 a3 σ4)
def f_X4_isHour (a1 : Int32) (σ2 : fh_S) : Option (Int32 × fh_S) := fh_cb (f_X4_isWithin a1 ((0 : Int32)) ((719 : Int32)) σ2) fun r4 σ3 => fh_rz r4 σ3
abbrev rm_X4_isHour : Room := { frames := 1, cells := 0, slots := 0, locals := 22 }
theorem pd_X4_isHour : yX4_isHour.cls ≠ "java/lang/invoke/MethodHandle" ∧ yX4_isHour.cls ≠ "java/lang/invoke/VarHandle" ∧ (parseMethodDescriptor yX4_isHour.desc).map (fun d => d.parameters.length) = some 1 := by decide +kernel
theorem dX4_isHour_0 : decode cX4_isHour 0 = .ok (.iload_n 0, 1) := by decide +kernel
theorem dX4_isHour_1 : decode cX4_isHour 1 = .ok (.iconst 0, 1) := by decide +kernel
theorem dX4_isHour_2 : decode cX4_isHour 2 = .ok (.sipush 719, 3) := by decide +kernel
theorem dX4_isHour_5 : decode cX4_isHour 5 = .ok (.invokestatic 84, 3) := by decide +kernel
theorem dX4_isHour_8 : decode cX4_isHour 8 = .ok (.ireturn, 1) := by decide +kernel
set_option maxHeartbeats 4000000 in
set_option maxRecDepth 100000 in
theorem g_X4_isHour {E : fh_E} {M : fh_M} (C : fh_Cx E M cX4_isHour 1 RX4 ((some FieldType.boolean)) rm_X4_isHour) (Hr : fh_Rt E M) (a1 : Int32) (σ2 : fh_S) : fh_Go E M 1 fh_vI 0 [(0, .int a1)] [] σ2 (f_X4_isHour a1 σ2) := by
  have hok := fh_cok C
  refine go_iload_n C 0 rfl rfl dX4_isHour_0 ?_
  refine go_iconst C (0 : Int32) dX4_isHour_1 rfl ?_
  refine go_sipush C (719 : Int32) dX4_isHour_2 rfl ?_
  refine go_callSI C (st := []) [.int a1, .int ((0 : Int32)), .int ((719 : Int32))] (m_X4_isWithin E _ hok a1 ((0 : Int32)) ((719 : Int32)) σ2) rfl ⟨q_172, q_173, q_1, q_174⟩ pd_X4_isWithin rfl ⟨⟨Nat.le_of_ble_eq_true rfl, Nat.le_of_ble_eq_true rfl⟩, rfl, rfl⟩ (Nat.le_of_ble_eq_true rfl) dX4_isHour_5 (fun r4 σ3 => ?_)
  exact go_zret C Hr dX4_isHour_8
theorem m_X4_isHour (E : fh_E) (l : Launch) (hok : fh_ok E) (a1 : Int32) (σ2 : fh_S) : fh_Met E l yX4_isHour cX4_isHour 1 ((some FieldType.boolean)) rm_X4_isHour fh_vI [.int a1] σ2 (f_X4_isHour a1 σ2) := fh_met hok (by decide +kernel) (Nat.le_of_ble_eq_true rfl) (fun M _ C Hr => g_X4_isHour C Hr a1 σ2)
def f_X4_isKind (a1 : Int32) (σ2 : fh_S) : Option (Int32 × fh_S) := fh_cb (f_X4_isWithin a1 ((0 : Int32)) (((7 : Int32)) - ((1 : Int32))) σ2) fun r4 σ3 => fh_rz r4 σ3
abbrev rm_X4_isKind : Room := { frames := 1, cells := 0, slots := 0, locals := 22 }
theorem pd_X4_isKind : yX4_isKind.cls ≠ "java/lang/invoke/MethodHandle" ∧ yX4_isKind.cls ≠ "java/lang/invoke/VarHandle" ∧ (parseMethodDescriptor yX4_isKind.desc).map (fun d => d.parameters.length) = some 1 := by decide +kernel
theorem dX4_isKind_0 : decode cX4_isKind 0 = .ok (.iload_n 0, 1) := by decide +kernel
theorem dX4_isKind_1 : decode cX4_isKind 1 = .ok (.iconst 0, 1) := by decide +kernel
theorem dX4_isKind_2 : decode cX4_isKind 2 = .ok (.getstatic 174, 3) := by decide +kernel
theorem dX4_isKind_5 : decode cX4_isKind 5 = .ok (.arraylength, 1) := by decide +kernel
theorem dX4_isKind_6 : decode cX4_isKind 6 = .ok (.iconst 1, 1) := by decide +kernel
theorem dX4_isKind_7 : decode cX4_isKind 7 = .ok (.isub, 1) := by decide +kernel
theorem dX4_isKind_8 : decode cX4_isKind 8 = .ok (.invokestatic 84, 3) := by decide +kernel
theorem dX4_isKind_11 : decode cX4_isKind 11 = .ok (.ireturn, 1) := by decide +kernel
set_option maxHeartbeats 4000000 in
set_option maxRecDepth 100000 in
theorem g_X4_isKind {E : fh_E} {M : fh_M} (C : fh_Cx E M cX4_isKind 1 RX4 ((some FieldType.boolean)) rm_X4_isKind) (Hr : fh_Rt E M) (a1 : Int32) (σ2 : fh_S) : fh_Go E M 1 fh_vI 0 [(0, .int a1)] [] σ2 (f_X4_isKind a1 σ2) := by
  have hok := fh_cok C
  refine go_iload_n C 0 rfl rfl dX4_isKind_0 ?_
  refine go_iconst C (0 : Int32) dX4_isKind_1 rfl ?_
  refine go_tu C q_170 dX4_isKind_2 ?_
  refine go_tl C dX4_isKind_5 ?_
  refine go_iconst C (1 : Int32) dX4_isKind_6 rfl ?_
  refine go_isub C dX4_isKind_7 ?_
  refine go_callSI C (st := []) [.int a1, .int ((0 : Int32)), .int (((7 : Int32)) - ((1 : Int32)))] (m_X4_isWithin E _ hok a1 ((0 : Int32)) (((7 : Int32)) - ((1 : Int32))) σ2) rfl ⟨q_172, q_173, q_1, q_174⟩ pd_X4_isWithin rfl ⟨⟨Nat.le_of_ble_eq_true rfl, Nat.le_of_ble_eq_true rfl⟩, rfl, rfl⟩ (Nat.le_of_ble_eq_true rfl) dX4_isKind_8 (fun r4 σ3 => ?_)
  exact go_zret C Hr dX4_isKind_11
theorem m_X4_isKind (E : fh_E) (l : Launch) (hok : fh_ok E) (a1 : Int32) (σ2 : fh_S) : fh_Met E l yX4_isKind cX4_isKind 1 ((some FieldType.boolean)) rm_X4_isKind fh_vI [.int a1] σ2 (f_X4_isKind a1 σ2) := fh_met hok (by decide +kernel) (Nat.le_of_ble_eq_true rfl) (fun M _ C Hr => g_X4_isKind C Hr a1 σ2)
def f_X0_mayBecome (k1 : Nat) (a2 : Int32) (a3 : Int32) (σ4 : fh_S) : Option (Int32 × fh_S) := fh_ob 0 k1 (if a2 = (0 : Int32) then fh_cb (f_X4_isKind a3 σ4) fun r6 σ5 => fh_rz r6 σ5 else if a2 = (1 : Int32) then fh_cb (f_X4_isHour a3 σ4) fun r9 σ8 => fh_rz r9 σ8 else if a2 = (2 : Int32) then fh_cb (f_X0_has k1 a3 σ4) fun r12 σ11 => fh_rz r12 σ11 else if a2 = (3 : Int32) then fh_cb (f_X4_isWithin a3 ((-99 : Int32)) ((99 : Int32)) σ4) fun r15 σ14 => fh_rz r15 σ14 else if a2 = (4 : Int32) then fh_rz ((0 : Int32)) σ4 else if a2 = (5 : Int32) then fh_cb (f_X4_isWithin a3 ((0 : Int32)) ((9 : Int32)) σ4) fun r19 σ18 => fh_rz r19 σ18 else fh_rz ((0 : Int32)) σ4)
abbrev rm_X0_mayBecome : Room := { frames := 2, cells := 0, slots := 0, locals := 42 }
theorem pd_X0_mayBecome : yX0_mayBecome.cls ≠ "java/lang/invoke/MethodHandle" ∧ yX0_mayBecome.cls ≠ "java/lang/invoke/VarHandle" ∧ (parseMethodDescriptor yX0_mayBecome.desc).map (fun d => d.parameters.length) = some 2 := by decide +kernel
theorem dX0_mayBecome_0 : decode cX0_mayBecome 0 = .ok (.iload_n 1, 1) := by decide +kernel
theorem dX0_mayBecome_1 : decode cX0_mayBecome 1 = .ok (.tableswitch 72 0 5 #[39, 44, 49, 55, 72, 64], 39) := by decide +kernel
theorem dX0_mayBecome_40 : decode cX0_mayBecome 40 = .ok (.iload_n 2, 1) := by decide +kernel
theorem dX0_mayBecome_41 : decode cX0_mayBecome 41 = .ok (.invokestatic 61, 3) := by decide +kernel
theorem dX0_mayBecome_44 : decode cX0_mayBecome 44 = .ok (.ireturn, 1) := by decide +kernel
theorem dX0_mayBecome_45 : decode cX0_mayBecome 45 = .ok (.iload_n 2, 1) := by decide +kernel
theorem dX0_mayBecome_46 : decode cX0_mayBecome 46 = .ok (.invokestatic 65, 3) := by decide +kernel
theorem dX0_mayBecome_49 : decode cX0_mayBecome 49 = .ok (.ireturn, 1) := by decide +kernel
theorem dX0_mayBecome_50 : decode cX0_mayBecome 50 = .ok (.aload_n 0, 1) := by decide +kernel
theorem dX0_mayBecome_51 : decode cX0_mayBecome 51 = .ok (.iload_n 2, 1) := by decide +kernel
theorem dX0_mayBecome_52 : decode cX0_mayBecome 52 = .ok (.invokevirtual 68, 3) := by decide +kernel
theorem dX0_mayBecome_55 : decode cX0_mayBecome 55 = .ok (.ireturn, 1) := by decide +kernel
theorem dX0_mayBecome_56 : decode cX0_mayBecome 56 = .ok (.iload_n 2, 1) := by decide +kernel
theorem dX0_mayBecome_57 : decode cX0_mayBecome 57 = .ok (.bipush (-99), 2) := by decide +kernel
theorem dX0_mayBecome_59 : decode cX0_mayBecome 59 = .ok (.bipush 99, 2) := by decide +kernel
theorem dX0_mayBecome_61 : decode cX0_mayBecome 61 = .ok (.invokestatic 71, 3) := by decide +kernel
theorem dX0_mayBecome_64 : decode cX0_mayBecome 64 = .ok (.ireturn, 1) := by decide +kernel
theorem dX0_mayBecome_65 : decode cX0_mayBecome 65 = .ok (.iload_n 2, 1) := by decide +kernel
theorem dX0_mayBecome_66 : decode cX0_mayBecome 66 = .ok (.iconst 0, 1) := by decide +kernel
theorem dX0_mayBecome_67 : decode cX0_mayBecome 67 = .ok (.bipush 9, 2) := by decide +kernel
theorem dX0_mayBecome_69 : decode cX0_mayBecome 69 = .ok (.invokestatic 71, 3) := by decide +kernel
theorem dX0_mayBecome_72 : decode cX0_mayBecome 72 = .ok (.ireturn, 1) := by decide +kernel
theorem dX0_mayBecome_73 : decode cX0_mayBecome 73 = .ok (.iconst 0, 1) := by decide +kernel
theorem dX0_mayBecome_74 : decode cX0_mayBecome 74 = .ok (.ireturn, 1) := by decide +kernel
set_option maxHeartbeats 4000000 in
set_option maxRecDepth 100000 in
theorem g_X0_mayBecome {E : fh_E} {M : fh_M} (C : fh_Cx E M cX0_mayBecome 3 RX0 ((some FieldType.boolean)) rm_X0_mayBecome) (Hr : fh_Rt E M) (k1 : Nat) (a2 : Int32) (a3 : Int32) (σ4 : fh_S) : fh_Go E M 3 fh_vI 0 [(0, .ref (fh_ad E k1)), (1, .int a2), (2, .int a3)] [] σ4 (f_X0_mayBecome k1 a2 a3 σ4) := by
  have hok := fh_cok C
  refine go_ob ?_
  refine go_iload_n C 1 rfl rfl dX0_mayBecome_0 ?_
  refine go_sw C (0 : Int32) 40 dX0_mayBecome_1 (by decide) (by decide) rfl rfl ?_ (fun hn7 => ?_)
  · refine go_iload_n C 2 rfl rfl dX0_mayBecome_40 ?_
    refine go_callNI C (st := []) [.int a3] (m_X4_isKind E _ hok a3 σ4) rfl ⟨List.mem_of_getElem? (i := 2) rfl, q_168, q_1, q_169⟩ pd_X4_isKind rfl ⟨⟨Nat.le_of_ble_eq_true rfl, Nat.le_of_ble_eq_true rfl⟩, rfl, rfl⟩ (Nat.le_of_ble_eq_true rfl) dX0_mayBecome_41 (fun r6 σ5 => ?_)
    exact go_zret C Hr dX0_mayBecome_44
  refine go_sw C (1 : Int32) 45 dX0_mayBecome_1 (by decide) (by decide) rfl rfl ?_ (fun hn10 => ?_)
  · refine go_iload_n C 2 rfl rfl dX0_mayBecome_45 ?_
    refine go_callNI C (st := []) [.int a3] (m_X4_isHour E _ hok a3 σ4) rfl ⟨List.mem_of_getElem? (i := 3) rfl, q_231, q_1, q_232⟩ pd_X4_isHour rfl ⟨⟨Nat.le_of_ble_eq_true rfl, Nat.le_of_ble_eq_true rfl⟩, rfl, rfl⟩ (Nat.le_of_ble_eq_true rfl) dX0_mayBecome_46 (fun r9 σ8 => ?_)
    exact go_zret C Hr dX0_mayBecome_49
  refine go_sw C (2 : Int32) 50 dX0_mayBecome_1 (by decide) (by decide) rfl rfl ?_ (fun hn13 => ?_)
  · refine go_aload_n C 0 rfl rfl dX0_mayBecome_50 ?_
    refine go_iload_n C 2 rfl rfl dX0_mayBecome_51 ?_
    refine go_callVI C (st := []) [.int a3] (m_X0_has E _ hok k1 a3 σ4) (fun _ h => fh_ob_ok h) rfl rfl ⟨q_233, q_197, q_198, q_2, q_199⟩ pd_X0_has rfl ⟨⟨Nat.le_of_ble_eq_true rfl, Nat.le_of_ble_eq_true rfl⟩, rfl, rfl⟩ (Nat.le_of_ble_eq_true rfl) dX0_mayBecome_52 (fun r12 σ11 => ?_)
    exact go_zret C Hr dX0_mayBecome_55
  refine go_sw C (3 : Int32) 56 dX0_mayBecome_1 (by decide) (by decide) rfl rfl ?_ (fun hn16 => ?_)
  · refine go_iload_n C 2 rfl rfl dX0_mayBecome_56 ?_
    refine go_bipush C (-99 : Int32) dX0_mayBecome_57 rfl ?_
    refine go_bipush C (99 : Int32) dX0_mayBecome_59 rfl ?_
    refine go_callNI C (st := []) [.int a3, .int ((-99 : Int32)), .int ((99 : Int32))] (m_X4_isWithin E _ hok a3 ((-99 : Int32)) ((99 : Int32)) σ4) rfl ⟨List.mem_of_getElem? (i := 4) rfl, q_173, q_1, q_174⟩ pd_X4_isWithin rfl ⟨⟨Nat.le_of_ble_eq_true rfl, Nat.le_of_ble_eq_true rfl⟩, rfl, rfl⟩ (Nat.le_of_ble_eq_true rfl) dX0_mayBecome_61 (fun r15 σ14 => ?_)
    exact go_zret C Hr dX0_mayBecome_64
  refine go_sw C (4 : Int32) 73 dX0_mayBecome_1 (by decide) (by decide) rfl rfl ?_ (fun hn17 => ?_)
  · refine go_iconst C (0 : Int32) dX0_mayBecome_73 rfl ?_
    exact go_zret C Hr dX0_mayBecome_74
  refine go_sw C (5 : Int32) 65 dX0_mayBecome_1 (by decide) (by decide) rfl rfl ?_ (fun hn20 => ?_)
  · refine go_iload_n C 2 rfl rfl dX0_mayBecome_65 ?_
    refine go_iconst C (0 : Int32) dX0_mayBecome_66 rfl ?_
    refine go_bipush C (9 : Int32) dX0_mayBecome_67 rfl ?_
    refine go_callNI C (st := []) [.int a3, .int ((0 : Int32)), .int ((9 : Int32))] (m_X4_isWithin E _ hok a3 ((0 : Int32)) ((9 : Int32)) σ4) rfl ⟨List.mem_of_getElem? (i := 4) rfl, q_173, q_1, q_174⟩ pd_X4_isWithin rfl ⟨⟨Nat.le_of_ble_eq_true rfl, Nat.le_of_ble_eq_true rfl⟩, rfl, rfl⟩ (Nat.le_of_ble_eq_true rfl) dX0_mayBecome_69 (fun r19 σ18 => ?_)
    exact go_zret C Hr dX0_mayBecome_72
  refine go_swd C 73 dX0_mayBecome_1 (by have hh0 := fh_ne (z := 0) hn7 (by decide); have hh1 := fh_ne (z := 1) hn10 (by decide); have hh2 := fh_ne (z := 2) hn13 (by decide); have hh3 := fh_ne (z := 3) hn16 (by decide); have hh4 := fh_ne (z := 4) hn17 (by decide); have hh5 := fh_ne (z := 5) hn20 (by decide); omega) rfl ?_
  refine go_iconst C (0 : Int32) dX0_mayBecome_73 rfl ?_
  exact go_zret C Hr dX0_mayBecome_74
theorem m_X0_mayBecome (E : fh_E) (l : Launch) (hok : fh_ok E) (k1 : Nat) (a2 : Int32) (a3 : Int32) (σ4 : fh_S) : fh_Met E l yX0_mayBecome cX0_mayBecome 3 ((some FieldType.boolean)) rm_X0_mayBecome fh_vI [.ref (fh_ad E k1), .int a2, .int a3] σ4 (f_X0_mayBecome k1 a2 a3 σ4) := fh_met hok (by decide +kernel) (Nat.le_of_ble_eq_true rfl) (fun M _ C Hr => g_X0_mayBecome C Hr k1 a2 a3 σ4)
def f_J9_floorMod_7cf53 (a1 : Int32) (a2 : Int32) (σ3 : fh_S) : Option (Int32 × fh_S) := if a2 = 0 then none else if 0 ≤ (a1 ^^^ a2) then some (a1 - a1 / a2 * a2, σ3) else if (a1 - a1 / a2 * a2) = 0 then some (a1 - a1 / a2 * a2, σ3) else some ((a1 - a1 / a2 * a2) + a2, σ3)
abbrev rm_J9_floorMod_7cf53 : Room := { frames := 0, cells := 0, slots := 0, locals := 0 }
theorem pd_J9_floorMod_7cf53 : yJ9_floorMod_7cf53.cls ≠ "java/lang/invoke/MethodHandle" ∧ yJ9_floorMod_7cf53.cls ≠ "java/lang/invoke/VarHandle" ∧ (parseMethodDescriptor yJ9_floorMod_7cf53.desc).map (fun d => d.parameters.length) = some 2 := by decide +kernel
theorem dJ9_floorMod_7cf53_0 : decode cJ9_floorMod_7cf53 0 = .ok (.iload_n 0, 1) := by decide +kernel
theorem dJ9_floorMod_7cf53_1 : decode cJ9_floorMod_7cf53 1 = .ok (.iload_n 1, 1) := by decide +kernel
theorem dJ9_floorMod_7cf53_2 : decode cJ9_floorMod_7cf53 2 = .ok (.irem, 1) := by decide +kernel
theorem dJ9_floorMod_7cf53_3 : decode cJ9_floorMod_7cf53 3 = .ok (.istore_n 2, 1) := by decide +kernel
theorem dJ9_floorMod_7cf53_4 : decode cJ9_floorMod_7cf53 4 = .ok (.iload_n 0, 1) := by decide +kernel
theorem dJ9_floorMod_7cf53_5 : decode cJ9_floorMod_7cf53 5 = .ok (.iload_n 1, 1) := by decide +kernel
theorem dJ9_floorMod_7cf53_6 : decode cJ9_floorMod_7cf53 6 = .ok (.ixor, 1) := by decide +kernel
theorem dJ9_floorMod_7cf53_7 : decode cJ9_floorMod_7cf53 7 = .ok (.ifCond .ge 11, 3) := by decide +kernel
theorem dJ9_floorMod_7cf53_10 : decode cJ9_floorMod_7cf53 10 = .ok (.iload_n 2, 1) := by decide +kernel
theorem dJ9_floorMod_7cf53_11 : decode cJ9_floorMod_7cf53 11 = .ok (.ifCond .eq 7, 3) := by decide +kernel
theorem dJ9_floorMod_7cf53_14 : decode cJ9_floorMod_7cf53 14 = .ok (.iload_n 2, 1) := by decide +kernel
theorem dJ9_floorMod_7cf53_15 : decode cJ9_floorMod_7cf53 15 = .ok (.iload_n 1, 1) := by decide +kernel
theorem dJ9_floorMod_7cf53_16 : decode cJ9_floorMod_7cf53 16 = .ok (.iadd, 1) := by decide +kernel
theorem dJ9_floorMod_7cf53_17 : decode cJ9_floorMod_7cf53 17 = .ok (.ireturn, 1) := by decide +kernel
theorem dJ9_floorMod_7cf53_18 : decode cJ9_floorMod_7cf53 18 = .ok (.iload_n 2, 1) := by decide +kernel
theorem dJ9_floorMod_7cf53_19 : decode cJ9_floorMod_7cf53 19 = .ok (.ireturn, 1) := by decide +kernel
set_option maxHeartbeats 4000000 in
set_option maxRecDepth 100000 in
theorem g_J9_floorMod_7cf53 {E : fh_E} {M : fh_M} (C : fh_Cx E M cJ9_floorMod_7cf53 3 RJ9 ((some FieldType.int)) rm_J9_floorMod_7cf53) (Hr : fh_Rt E M) (a1 : Int32) (a2 : Int32) (σ3 : fh_S) : fh_Go E M 3 fh_vI 0 [(0, .int a1), (1, .int a2)] [] σ3 (f_J9_floorMod_7cf53 a1 a2 σ3) := by
  have hok := fh_cok C
  refine go_iload_n C 0 rfl rfl dJ9_floorMod_7cf53_0 ?_
  refine go_iload_n C 1 rfl rfl dJ9_floorMod_7cf53_1 ?_
  refine go_nz (fun hz4 => ?_)
  refine go_irem C dJ9_floorMod_7cf53_2 hz4 ?_
  refine go_istore_n C [(2, .int (a1 - a1 / a2 * a2)), (0, .int a1), (1, .int a2)] rfl rfl (by decide) dJ9_floorMod_7cf53_3 ?_
  refine go_iload_n C 1 rfl rfl dJ9_floorMod_7cf53_4 ?_
  refine go_iload_n C 2 rfl rfl dJ9_floorMod_7cf53_5 ?_
  refine go_ixor C dJ9_floorMod_7cf53_6 ?_
  refine go_if_ge (tgt := 18) C dJ9_floorMod_7cf53_7 rfl (fun _ => ?_) (fun _ => ?_)
  · refine go_iload_n C 0 rfl rfl dJ9_floorMod_7cf53_18 ?_
    exact go_iret C Hr rfl dJ9_floorMod_7cf53_19
  · refine go_iload_n C 0 rfl rfl dJ9_floorMod_7cf53_10 ?_
    refine go_if_eq (tgt := 18) C dJ9_floorMod_7cf53_11 rfl (fun _ => ?_) (fun _ => ?_)
    · refine go_iload_n C 0 rfl rfl dJ9_floorMod_7cf53_18 ?_
      exact go_iret C Hr rfl dJ9_floorMod_7cf53_19
    · refine go_iload_n C 0 rfl rfl dJ9_floorMod_7cf53_14 ?_
      refine go_iload_n C 2 rfl rfl dJ9_floorMod_7cf53_15 ?_
      refine go_iadd C dJ9_floorMod_7cf53_16 ?_
      exact go_iret C Hr rfl dJ9_floorMod_7cf53_17
theorem m_J9_floorMod_7cf53 (E : fh_E) (l : Launch) (hok : fh_ok E) (a1 : Int32) (a2 : Int32) (σ3 : fh_S) : fh_Met E l yJ9_floorMod_7cf53 cJ9_floorMod_7cf53 3 ((some FieldType.int)) rm_J9_floorMod_7cf53 fh_vI [.int a1, .int a2] σ3 (f_J9_floorMod_7cf53 a1 a2 σ3) := fh_met hok (by decide +kernel) (Nat.le_of_ble_eq_true rfl) (fun M _ C Hr => g_J9_floorMod_7cf53 C Hr a1 a2 σ3)
def f_X4_roundHour (a1 : Int32) (σ2 : fh_S) : Option (Int32 × fh_S) := fh_cb (f_J9_floorMod_7cf53 a1 ((720 : Int32)) σ2) fun r4 σ3 => some (r4, σ3)
abbrev rm_X4_roundHour : Room := { frames := 1, cells := 0, slots := 0, locals := 22 }
theorem pd_X4_roundHour : yX4_roundHour.cls ≠ "java/lang/invoke/MethodHandle" ∧ yX4_roundHour.cls ≠ "java/lang/invoke/VarHandle" ∧ (parseMethodDescriptor yX4_roundHour.desc).map (fun d => d.parameters.length) = some 1 := by decide +kernel
theorem dX4_roundHour_0 : decode cX4_roundHour 0 = .ok (.iload_n 0, 1) := by decide +kernel
theorem dX4_roundHour_1 : decode cX4_roundHour 1 = .ok (.sipush 720, 3) := by decide +kernel
theorem dX4_roundHour_4 : decode cX4_roundHour 4 = .ok (.invokestatic 281, 3) := by decide +kernel
theorem dX4_roundHour_7 : decode cX4_roundHour 7 = .ok (.ireturn, 1) := by decide +kernel
set_option maxHeartbeats 4000000 in
set_option maxRecDepth 100000 in
theorem g_X4_roundHour {E : fh_E} {M : fh_M} (C : fh_Cx E M cX4_roundHour 1 RX4 ((some FieldType.int)) rm_X4_roundHour) (Hr : fh_Rt E M) (a1 : Int32) (σ2 : fh_S) : fh_Go E M 1 fh_vI 0 [(0, .int a1)] [] σ2 (f_X4_roundHour a1 σ2) := by
  have hok := fh_cok C
  refine go_iload_n C 0 rfl rfl dX4_roundHour_0 ?_
  refine go_sipush C (720 : Int32) dX4_roundHour_1 rfl ?_
  refine go_callSI C (st := []) [.int a1, .int ((720 : Int32))] (m_J9_floorMod_7cf53 E _ hok a1 ((720 : Int32)) σ2) rfl ⟨q_246, q_247, q_7, q_248⟩ pd_J9_floorMod_7cf53 rfl ⟨⟨Nat.le_of_ble_eq_true rfl, Nat.le_of_ble_eq_true rfl⟩, rfl, rfl⟩ (Nat.le_of_ble_eq_true rfl) dX4_roundHour_4 (fun r4 σ3 => ?_)
  exact go_iret C Hr rfl dX4_roundHour_7
theorem m_X4_roundHour (E : fh_E) (l : Launch) (hok : fh_ok E) (a1 : Int32) (σ2 : fh_S) : fh_Met E l yX4_roundHour cX4_roundHour 1 ((some FieldType.int)) rm_X4_roundHour fh_vI [.int a1] σ2 (f_X4_roundHour a1 σ2) := fh_met hok (by decide +kernel) (Nat.le_of_ble_eq_true rfl) (fun M _ C Hr => g_X4_roundHour C Hr a1 σ2)
def f_X0_turn (k1 : Nat) (a2 : Int32) (a3 : Int32) (σ4 : fh_S) : Option (Unit × fh_S) := fh_ob 0 k1 ((fh_gr 0 k1 1).bind fun k5 => (fh_gr 0 k1 1).bind fun k6 => (fh_ld σ4 k6 a2).bind fun v7 => fh_cb (f_X4_roundHour (v7 + a3) σ4) fun r9 σ8 => (fh_st σ8 k5 a2 r9).bind fun σ10 => some ((), σ10))
abbrev rm_X0_turn : Room := { frames := 2, cells := 0, slots := 0, locals := 42 }
theorem pd_X0_turn : yX0_turn.cls ≠ "java/lang/invoke/MethodHandle" ∧ yX0_turn.cls ≠ "java/lang/invoke/VarHandle" ∧ (parseMethodDescriptor yX0_turn.desc).map (fun d => d.parameters.length) = some 2 := by decide +kernel
theorem dX0_turn_0 : decode cX0_turn 0 = .ok (.aload_n 0, 1) := by decide +kernel
theorem dX0_turn_1 : decode cX0_turn 1 = .ok (.getfield 15, 3) := by decide +kernel
theorem dX0_turn_4 : decode cX0_turn 4 = .ok (.iload_n 1, 1) := by decide +kernel
theorem dX0_turn_5 : decode cX0_turn 5 = .ok (.aload_n 0, 1) := by decide +kernel
theorem dX0_turn_6 : decode cX0_turn 6 = .ok (.getfield 15, 3) := by decide +kernel
theorem dX0_turn_9 : decode cX0_turn 9 = .ok (.iload_n 1, 1) := by decide +kernel
theorem dX0_turn_10 : decode cX0_turn 10 = .ok (.iaload, 1) := by decide +kernel
theorem dX0_turn_11 : decode cX0_turn 11 = .ok (.iload_n 2, 1) := by decide +kernel
theorem dX0_turn_12 : decode cX0_turn 12 = .ok (.iadd, 1) := by decide +kernel
theorem dX0_turn_13 : decode cX0_turn 13 = .ok (.invokestatic 75, 3) := by decide +kernel
theorem dX0_turn_16 : decode cX0_turn 16 = .ok (.iastore, 1) := by decide +kernel
theorem dX0_turn_17 : decode cX0_turn 17 = .ok (.return_, 1) := by decide +kernel
set_option maxHeartbeats 4000000 in
set_option maxRecDepth 100000 in
theorem g_X0_turn {E : fh_E} {M : fh_M} (C : fh_Cx E M cX0_turn 3 RX0 (none) rm_X0_turn) (Hr : fh_Rt E M) (k1 : Nat) (a2 : Int32) (a3 : Int32) (σ4 : fh_S) : fh_Go E M 3 fh_vU 0 [(0, .ref (fh_ad E k1)), (1, .int a2), (2, .int a3)] [] σ4 (f_X0_turn k1 a2 a3 σ4) := by
  have hok := fh_cok C
  refine go_ob ?_
  refine go_aload_n C 0 rfl rfl dX0_turn_0 ?_
  refine go_gr (ci := 0) (j := 1) C fh_in0 rfl (by decide) rfl q_30 dX0_turn_1 (fun k5 => ?_)
  refine go_iload_n C 1 rfl rfl dX0_turn_4 ?_
  refine go_aload_n C 0 rfl rfl dX0_turn_5 ?_
  refine go_gr (ci := 0) (j := 1) C fh_in0 rfl (by decide) rfl q_30 dX0_turn_6 (fun k6 => ?_)
  refine go_iload_n C 1 rfl rfl dX0_turn_9 ?_
  refine go_iald C dX0_turn_10 (fun v7 => ?_)
  refine go_iload_n C 2 rfl rfl dX0_turn_11 ?_
  refine go_iadd C dX0_turn_12 ?_
  refine go_callNI C (st := [.int a2, .ref (fh_ad E k5)]) [.int (v7 + a3)] (m_X4_roundHour E _ hok (v7 + a3) σ4) rfl ⟨List.mem_of_getElem? (i := 5) rfl, q_244, q_1, q_245⟩ pd_X4_roundHour rfl ⟨⟨Nat.le_of_ble_eq_true rfl, Nat.le_of_ble_eq_true rfl⟩, rfl, rfl⟩ (Nat.le_of_ble_eq_true rfl) dX0_turn_13 (fun r9 σ8 => ?_)
  refine go_iast C dX0_turn_16 (fun σ10 => ?_)
  exact go_vret C Hr rfl dX0_turn_17
theorem m_X0_turn (E : fh_E) (l : Launch) (hok : fh_ok E) (k1 : Nat) (a2 : Int32) (a3 : Int32) (σ4 : fh_S) : fh_Met E l yX0_turn cX0_turn 3 (none) rm_X0_turn fh_vU [.ref (fh_ad E k1), .int a2, .int a3] σ4 (f_X0_turn k1 a2 a3 σ4) := fh_met hok (by decide +kernel) (Nat.le_of_ble_eq_true rfl) (fun M _ C Hr => g_X0_turn C Hr k1 a2 a3 σ4)
def f_X0_freeze (k1 : Nat) (a2 : Int32) (σ3 : fh_S) : Option (Int32 × fh_S) := fh_ob 0 k1 ((fh_gr 0 k1 4).bind fun k4 => (fh_ld σ3 k4 a2).bind fun v5 => if v5 = ((1 : Int32)) then fh_rz ((0 : Int32)) σ3 else (fh_gr 0 k1 4).bind fun k6 => (fh_st σ3 k6 a2 ((1 : Int32))).bind fun σ7 => (fh_gr 0 k1 3).bind fun k8 => (fh_st σ7 k8 a2 ((0 : Int32))).bind fun σ9 => fh_rz ((1 : Int32)) σ9)
abbrev rm_X0_freeze : Room := { frames := 0, cells := 0, slots := 0, locals := 0 }
theorem pd_X0_freeze : yX0_freeze.cls ≠ "java/lang/invoke/MethodHandle" ∧ yX0_freeze.cls ≠ "java/lang/invoke/VarHandle" ∧ (parseMethodDescriptor yX0_freeze.desc).map (fun d => d.parameters.length) = some 1 := by decide +kernel
theorem dX0_freeze_0 : decode cX0_freeze 0 = .ok (.aload_n 0, 1) := by decide +kernel
theorem dX0_freeze_1 : decode cX0_freeze 1 = .ok (.getfield 24, 3) := by decide +kernel
theorem dX0_freeze_4 : decode cX0_freeze 4 = .ok (.iload_n 1, 1) := by decide +kernel
theorem dX0_freeze_5 : decode cX0_freeze 5 = .ok (.iaload, 1) := by decide +kernel
theorem dX0_freeze_6 : decode cX0_freeze 6 = .ok (.iconst 1, 1) := by decide +kernel
theorem dX0_freeze_7 : decode cX0_freeze 7 = .ok (.if_icmp .ne 5, 3) := by decide +kernel
theorem dX0_freeze_10 : decode cX0_freeze 10 = .ok (.iconst 0, 1) := by decide +kernel
theorem dX0_freeze_11 : decode cX0_freeze 11 = .ok (.ireturn, 1) := by decide +kernel
theorem dX0_freeze_12 : decode cX0_freeze 12 = .ok (.aload_n 0, 1) := by decide +kernel
theorem dX0_freeze_13 : decode cX0_freeze 13 = .ok (.getfield 24, 3) := by decide +kernel
theorem dX0_freeze_16 : decode cX0_freeze 16 = .ok (.iload_n 1, 1) := by decide +kernel
theorem dX0_freeze_17 : decode cX0_freeze 17 = .ok (.iconst 1, 1) := by decide +kernel
theorem dX0_freeze_18 : decode cX0_freeze 18 = .ok (.iastore, 1) := by decide +kernel
theorem dX0_freeze_19 : decode cX0_freeze 19 = .ok (.aload_n 0, 1) := by decide +kernel
theorem dX0_freeze_20 : decode cX0_freeze 20 = .ok (.getfield 21, 3) := by decide +kernel
theorem dX0_freeze_23 : decode cX0_freeze 23 = .ok (.iload_n 1, 1) := by decide +kernel
theorem dX0_freeze_24 : decode cX0_freeze 24 = .ok (.iconst 0, 1) := by decide +kernel
theorem dX0_freeze_25 : decode cX0_freeze 25 = .ok (.iastore, 1) := by decide +kernel
theorem dX0_freeze_26 : decode cX0_freeze 26 = .ok (.iconst 1, 1) := by decide +kernel
theorem dX0_freeze_27 : decode cX0_freeze 27 = .ok (.ireturn, 1) := by decide +kernel
set_option maxHeartbeats 4000000 in
set_option maxRecDepth 100000 in
theorem g_X0_freeze {E : fh_E} {M : fh_M} (C : fh_Cx E M cX0_freeze 2 RX0 ((some FieldType.boolean)) rm_X0_freeze) (Hr : fh_Rt E M) (k1 : Nat) (a2 : Int32) (σ3 : fh_S) : fh_Go E M 2 fh_vI 0 [(0, .ref (fh_ad E k1)), (1, .int a2)] [] σ3 (f_X0_freeze k1 a2 σ3) := by
  have hok := fh_cok C
  refine go_ob ?_
  refine go_aload_n C 0 rfl rfl dX0_freeze_0 ?_
  refine go_gr (ci := 0) (j := 4) C fh_in0 rfl (by decide) rfl q_39 dX0_freeze_1 (fun k4 => ?_)
  refine go_iload_n C 1 rfl rfl dX0_freeze_4 ?_
  refine go_iald C dX0_freeze_5 (fun v5 => ?_)
  refine go_iconst C (1 : Int32) dX0_freeze_6 rfl ?_
  refine go_icmp_ne (tgt := 12) C dX0_freeze_7 rfl (fun _ => ?_) (fun _ => ?_)
  · refine go_aload_n C 0 rfl rfl dX0_freeze_12 ?_
    refine go_gr (ci := 0) (j := 4) C fh_in0 rfl (by decide) rfl q_39 dX0_freeze_13 (fun k6 => ?_)
    refine go_iload_n C 1 rfl rfl dX0_freeze_16 ?_
    refine go_iconst C (1 : Int32) dX0_freeze_17 rfl ?_
    refine go_iast C dX0_freeze_18 (fun σ7 => ?_)
    refine go_aload_n C 0 rfl rfl dX0_freeze_19 ?_
    refine go_gr (ci := 0) (j := 3) C fh_in0 rfl (by decide) rfl q_36 dX0_freeze_20 (fun k8 => ?_)
    refine go_iload_n C 1 rfl rfl dX0_freeze_23 ?_
    refine go_iconst C (0 : Int32) dX0_freeze_24 rfl ?_
    refine go_iast C dX0_freeze_25 (fun σ9 => ?_)
    refine go_iconst C (1 : Int32) dX0_freeze_26 rfl ?_
    exact go_zret C Hr dX0_freeze_27
  · refine go_iconst C (0 : Int32) dX0_freeze_10 rfl ?_
    exact go_zret C Hr dX0_freeze_11
theorem m_X0_freeze (E : fh_E) (l : Launch) (hok : fh_ok E) (k1 : Nat) (a2 : Int32) (σ3 : fh_S) : fh_Met E l yX0_freeze cX0_freeze 2 ((some FieldType.boolean)) rm_X0_freeze fh_vI [.ref (fh_ad E k1), .int a2] σ3 (f_X0_freeze k1 a2 σ3) := fh_met hok (by decide +kernel) (Nat.le_of_ble_eq_true rfl) (fun M _ C Hr => g_X0_freeze C Hr k1 a2 σ3)
def f_X0_thaw (k1 : Nat) (a2 : Int32) (σ3 : fh_S) : Option (Int32 × fh_S) := fh_ob 0 k1 ((fh_gr 0 k1 4).bind fun k4 => (fh_ld σ3 k4 a2).bind fun v5 => if v5 = 0 then fh_rz ((0 : Int32)) σ3 else (fh_gr 0 k1 4).bind fun k6 => (fh_st σ3 k6 a2 ((0 : Int32))).bind fun σ7 => (fh_gr 0 k1 3).bind fun k8 => (fh_st σ7 k8 a2 ((1 : Int32))).bind fun σ9 => fh_rz ((1 : Int32)) σ9)
abbrev rm_X0_thaw : Room := { frames := 0, cells := 0, slots := 0, locals := 0 }
theorem pd_X0_thaw : yX0_thaw.cls ≠ "java/lang/invoke/MethodHandle" ∧ yX0_thaw.cls ≠ "java/lang/invoke/VarHandle" ∧ (parseMethodDescriptor yX0_thaw.desc).map (fun d => d.parameters.length) = some 1 := by decide +kernel
theorem dX0_thaw_0 : decode cX0_thaw 0 = .ok (.aload_n 0, 1) := by decide +kernel
theorem dX0_thaw_1 : decode cX0_thaw 1 = .ok (.getfield 24, 3) := by decide +kernel
theorem dX0_thaw_4 : decode cX0_thaw 4 = .ok (.iload_n 1, 1) := by decide +kernel
theorem dX0_thaw_5 : decode cX0_thaw 5 = .ok (.iaload, 1) := by decide +kernel
theorem dX0_thaw_6 : decode cX0_thaw 6 = .ok (.ifCond .ne 5, 3) := by decide +kernel
theorem dX0_thaw_9 : decode cX0_thaw 9 = .ok (.iconst 0, 1) := by decide +kernel
theorem dX0_thaw_10 : decode cX0_thaw 10 = .ok (.ireturn, 1) := by decide +kernel
theorem dX0_thaw_11 : decode cX0_thaw 11 = .ok (.aload_n 0, 1) := by decide +kernel
theorem dX0_thaw_12 : decode cX0_thaw 12 = .ok (.getfield 24, 3) := by decide +kernel
theorem dX0_thaw_15 : decode cX0_thaw 15 = .ok (.iload_n 1, 1) := by decide +kernel
theorem dX0_thaw_16 : decode cX0_thaw 16 = .ok (.iconst 0, 1) := by decide +kernel
theorem dX0_thaw_17 : decode cX0_thaw 17 = .ok (.iastore, 1) := by decide +kernel
theorem dX0_thaw_18 : decode cX0_thaw 18 = .ok (.aload_n 0, 1) := by decide +kernel
theorem dX0_thaw_19 : decode cX0_thaw 19 = .ok (.getfield 21, 3) := by decide +kernel
theorem dX0_thaw_22 : decode cX0_thaw 22 = .ok (.iload_n 1, 1) := by decide +kernel
theorem dX0_thaw_23 : decode cX0_thaw 23 = .ok (.iconst 1, 1) := by decide +kernel
theorem dX0_thaw_24 : decode cX0_thaw 24 = .ok (.iastore, 1) := by decide +kernel
theorem dX0_thaw_25 : decode cX0_thaw 25 = .ok (.iconst 1, 1) := by decide +kernel
theorem dX0_thaw_26 : decode cX0_thaw 26 = .ok (.ireturn, 1) := by decide +kernel
set_option maxHeartbeats 4000000 in
set_option maxRecDepth 100000 in
theorem g_X0_thaw {E : fh_E} {M : fh_M} (C : fh_Cx E M cX0_thaw 2 RX0 ((some FieldType.boolean)) rm_X0_thaw) (Hr : fh_Rt E M) (k1 : Nat) (a2 : Int32) (σ3 : fh_S) : fh_Go E M 2 fh_vI 0 [(0, .ref (fh_ad E k1)), (1, .int a2)] [] σ3 (f_X0_thaw k1 a2 σ3) := by
  have hok := fh_cok C
  refine go_ob ?_
  refine go_aload_n C 0 rfl rfl dX0_thaw_0 ?_
  refine go_gr (ci := 0) (j := 4) C fh_in0 rfl (by decide) rfl q_39 dX0_thaw_1 (fun k4 => ?_)
  refine go_iload_n C 1 rfl rfl dX0_thaw_4 ?_
  refine go_iald C dX0_thaw_5 (fun v5 => ?_)
  refine go_if_ne (tgt := 11) C dX0_thaw_6 rfl (fun _ => ?_) (fun _ => ?_)
  · refine go_aload_n C 0 rfl rfl dX0_thaw_11 ?_
    refine go_gr (ci := 0) (j := 4) C fh_in0 rfl (by decide) rfl q_39 dX0_thaw_12 (fun k6 => ?_)
    refine go_iload_n C 1 rfl rfl dX0_thaw_15 ?_
    refine go_iconst C (0 : Int32) dX0_thaw_16 rfl ?_
    refine go_iast C dX0_thaw_17 (fun σ7 => ?_)
    refine go_aload_n C 0 rfl rfl dX0_thaw_18 ?_
    refine go_gr (ci := 0) (j := 3) C fh_in0 rfl (by decide) rfl q_36 dX0_thaw_19 (fun k8 => ?_)
    refine go_iload_n C 1 rfl rfl dX0_thaw_22 ?_
    refine go_iconst C (1 : Int32) dX0_thaw_23 rfl ?_
    refine go_iast C dX0_thaw_24 (fun σ9 => ?_)
    refine go_iconst C (1 : Int32) dX0_thaw_25 rfl ?_
    exact go_zret C Hr dX0_thaw_26
  · refine go_iconst C (0 : Int32) dX0_thaw_9 rfl ?_
    exact go_zret C Hr dX0_thaw_10
theorem m_X0_thaw (E : fh_E) (l : Launch) (hok : fh_ok E) (k1 : Nat) (a2 : Int32) (σ3 : fh_S) : fh_Met E l yX0_thaw cX0_thaw 2 ((some FieldType.boolean)) rm_X0_thaw fh_vI [.ref (fh_ad E k1), .int a2] σ3 (f_X0_thaw k1 a2 σ3) := fh_met hok (by decide +kernel) (Nat.le_of_ble_eq_true rfl) (fun M _ C Hr => g_X0_thaw C Hr k1 a2 σ3)
def f_X0_draw (k1 : Nat) (σ2 : fh_S) : Option (Int32 × fh_S) := fh_ob 0 k1 ((fh_gi σ2 0 k1 11).bind fun v3 => (fh_pf σ2 0 k1 11 ((v3 * ((1103515245 : Int32))) + ((12345 : Int32)))).bind fun σ4 => (fh_gi σ4 0 k1 11).bind fun v5 => some ((v5.toUInt32 >>> (((8 : Int32)).toUInt32 &&& Int32.toUInt32 31)).toInt32, σ4))
abbrev rm_X0_draw : Room := { frames := 0, cells := 0, slots := 0, locals := 0 }
theorem pd_X0_draw : yX0_draw.cls ≠ "java/lang/invoke/MethodHandle" ∧ yX0_draw.cls ≠ "java/lang/invoke/VarHandle" ∧ (parseMethodDescriptor yX0_draw.desc).map (fun d => d.parameters.length) = some 0 := by decide +kernel
theorem dX0_draw_0 : decode cX0_draw 0 = .ok (.aload_n 0, 1) := by decide +kernel
theorem dX0_draw_1 : decode cX0_draw 1 = .ok (.aload_n 0, 1) := by decide +kernel
theorem dX0_draw_2 : decode cX0_draw 2 = .ok (.getfield 46, 3) := by decide +kernel
theorem dX0_draw_5 : decode cX0_draw 5 = .ok (.ldc 79, 2) := by decide +kernel
theorem dX0_draw_7 : decode cX0_draw 7 = .ok (.imul, 1) := by decide +kernel
theorem dX0_draw_8 : decode cX0_draw 8 = .ok (.sipush 12345, 3) := by decide +kernel
theorem dX0_draw_11 : decode cX0_draw 11 = .ok (.iadd, 1) := by decide +kernel
theorem dX0_draw_12 : decode cX0_draw 12 = .ok (.putfield 46, 3) := by decide +kernel
theorem dX0_draw_15 : decode cX0_draw 15 = .ok (.aload_n 0, 1) := by decide +kernel
theorem dX0_draw_16 : decode cX0_draw 16 = .ok (.getfield 46, 3) := by decide +kernel
theorem dX0_draw_19 : decode cX0_draw 19 = .ok (.bipush 8, 2) := by decide +kernel
theorem dX0_draw_21 : decode cX0_draw 21 = .ok (.iushr, 1) := by decide +kernel
theorem dX0_draw_22 : decode cX0_draw 22 = .ok (.ireturn, 1) := by decide +kernel
set_option maxHeartbeats 4000000 in
set_option maxRecDepth 100000 in
theorem g_X0_draw {E : fh_E} {M : fh_M} (C : fh_Cx E M cX0_draw 1 RX0 ((some FieldType.int)) rm_X0_draw) (Hr : fh_Rt E M) (k1 : Nat) (σ2 : fh_S) : fh_Go E M 1 fh_vI 0 [(0, .ref (fh_ad E k1))] [] σ2 (f_X0_draw k1 σ2) := by
  have hok := fh_cok C
  refine go_ob ?_
  refine go_aload_n C 0 rfl rfl dX0_draw_0 ?_
  refine go_aload_n C 0 rfl rfl dX0_draw_1 ?_
  refine go_gi (ci := 0) (j := 11) C fh_in0 rfl (by decide) rfl q_51 dX0_draw_2 (fun v3 => ?_)
  refine go_ldc C q_505 dX0_draw_5 ?_
  refine go_imul C dX0_draw_7 ?_
  refine go_sipush C (12345 : Int32) dX0_draw_8 rfl ?_
  refine go_iadd C dX0_draw_11 ?_
  refine go_pf (ci := 0) (j := 11) C tyX0 tyX0_ok nmX0 fh_in0 rfl (by decide) rfl q_51 rfl rfl dX0_draw_12 (fun σ4 => ?_)
  refine go_aload_n C 0 rfl rfl dX0_draw_15 ?_
  refine go_gi (ci := 0) (j := 11) C fh_in0 rfl (by decide) rfl q_51 dX0_draw_16 (fun v5 => ?_)
  refine go_bipush C (8 : Int32) dX0_draw_19 rfl ?_
  refine go_iushr C dX0_draw_21 ?_
  exact go_iret C Hr rfl dX0_draw_22
theorem m_X0_draw (E : fh_E) (l : Launch) (hok : fh_ok E) (k1 : Nat) (σ2 : fh_S) : fh_Met E l yX0_draw cX0_draw 1 ((some FieldType.int)) rm_X0_draw fh_vI [.ref (fh_ad E k1)] σ2 (f_X0_draw k1 σ2) := fh_met hok (by decide +kernel) (Nat.le_of_ble_eq_true rfl) (fun M _ C Hr => g_X0_draw C Hr k1 σ2)
def f_X0_lateOf (a1 : Int32) (σ2 : fh_S) : Option (Int32 × fh_S) := if a1 ≤ 0 then some (a1, σ2) else some (a1 - ((1 : Int32)), σ2)
abbrev rm_X0_lateOf : Room := { frames := 0, cells := 0, slots := 0, locals := 0 }
theorem pd_X0_lateOf : yX0_lateOf.cls ≠ "java/lang/invoke/MethodHandle" ∧ yX0_lateOf.cls ≠ "java/lang/invoke/VarHandle" ∧ (parseMethodDescriptor yX0_lateOf.desc).map (fun d => d.parameters.length) = some 1 := by decide +kernel
theorem dX0_lateOf_0 : decode cX0_lateOf 0 = .ok (.iload_n 0, 1) := by decide +kernel
theorem dX0_lateOf_1 : decode cX0_lateOf 1 = .ok (.ifCond .le 9, 3) := by decide +kernel
theorem dX0_lateOf_4 : decode cX0_lateOf 4 = .ok (.iload_n 0, 1) := by decide +kernel
theorem dX0_lateOf_5 : decode cX0_lateOf 5 = .ok (.iconst 1, 1) := by decide +kernel
theorem dX0_lateOf_6 : decode cX0_lateOf 6 = .ok (.isub, 1) := by decide +kernel
theorem dX0_lateOf_7 : decode cX0_lateOf 7 = .ok (.goto 4, 3) := by decide +kernel
theorem dX0_lateOf_10 : decode cX0_lateOf 10 = .ok (.iload_n 0, 1) := by decide +kernel
theorem dX0_lateOf_11 : decode cX0_lateOf 11 = .ok (.ireturn, 1) := by decide +kernel
set_option maxHeartbeats 4000000 in
set_option maxRecDepth 100000 in
theorem g_X0_lateOf {E : fh_E} {M : fh_M} (C : fh_Cx E M cX0_lateOf 1 RX0 ((some FieldType.int)) rm_X0_lateOf) (Hr : fh_Rt E M) (a1 : Int32) (σ2 : fh_S) : fh_Go E M 1 fh_vI 0 [(0, .int a1)] [] σ2 (f_X0_lateOf a1 σ2) := by
  have hok := fh_cok C
  refine go_iload_n C 0 rfl rfl dX0_lateOf_0 ?_
  refine go_if_le (tgt := 10) C dX0_lateOf_1 rfl (fun _ => ?_) (fun _ => ?_)
  · refine go_iload_n C 0 rfl rfl dX0_lateOf_10 ?_
    exact go_iret C Hr rfl dX0_lateOf_11
  · refine go_iload_n C 0 rfl rfl dX0_lateOf_4 ?_
    refine go_iconst C (1 : Int32) dX0_lateOf_5 rfl ?_
    refine go_isub C dX0_lateOf_6 ?_
    refine go_goto C 11 dX0_lateOf_7 rfl ?_
    exact go_iret C Hr rfl dX0_lateOf_11
theorem m_X0_lateOf (E : fh_E) (l : Launch) (hok : fh_ok E) (a1 : Int32) (σ2 : fh_S) : fh_Met E l yX0_lateOf cX0_lateOf 1 ((some FieldType.int)) rm_X0_lateOf fh_vI [.int a1] σ2 (f_X0_lateOf a1 σ2) := fh_met hok (by decide +kernel) (Nat.le_of_ble_eq_true rfl) (fun M _ C Hr => g_X0_lateOf C Hr a1 σ2)
def f_X0_paceBehind_J113 (v6 : Int32) : Int32 → fh_S → Option (Int32 × fh_S) := fun x14 σ15 => some ((((-2 : Int32)) * v6) + x14, σ15)
def f_X0_paceBehind_J83 (v6 : Int32) : Int32 → fh_S → Option (Int32 × fh_S) := fun x19 σ20 => some ((v6 / ((2 : Int32))) + x19, σ20)
def f_X0_paceBehind_J82 (j21 : Int32 → fh_S → Option (Int32 × fh_S)) : fh_S → Option (Int32 × fh_S) := fun σ22 => j21 ((0 : Int32)) σ22
def f_X0_paceBehind (k1 : Nat) (a2 : Int32) (a3 : Int32) (σ4 : fh_S) : Option (Int32 × fh_S) := fh_ob 0 k1 ((fh_gr 0 k1 3).bind fun k5 => (fh_ld σ4 k5 a2).bind fun v6 => if a3 = (1 : Int32) then fh_cb (f_X0_lateOf v6 σ4) fun r8 σ7 => some (r8, σ7) else if a3 = (2 : Int32) then some (((2 : Int32)) * v6, σ4) else if a3 = (3 : Int32) then some (((-2 : Int32)) * v6, σ4) else if a3 = (4 : Int32) then (fh_gr 0 k1 4).bind fun k12 => (fh_ld σ4 k12 a2).bind fun v13 => fh_jn (f_X0_paceBehind_J113 v6) (fun j16 => if v13 = ((1 : Int32)) then j16 ((3 : Int32)) σ4 else j16 ((0 : Int32)) σ4) else if a3 = (5 : Int32) then (fh_gi σ4 0 k1 10).bind fun v18 => fh_jn (f_X0_paceBehind_J83 v6) (fun j21 => fh_jn (f_X0_paceBehind_J82 j21) (fun j23 => if (v18 - v18 / ((2 : Int32)) * ((2 : Int32))) = ((1 : Int32)) then if v6 = 0 then j23 σ4 else j21 ((1 : Int32)) σ4 else j23 σ4)) else if a3 = (6 : Int32) then fh_cb (f_X0_lateOf v6 σ4) fun r26 σ25 => fh_cb (f_X0_lateOf r26 σ25) fun r28 σ27 => some (r28, σ27) else some (v6, σ4))
abbrev rm_X0_paceBehind : Room := { frames := 1, cells := 0, slots := 0, locals := 20 }
theorem pd_X0_paceBehind : yX0_paceBehind.cls ≠ "java/lang/invoke/MethodHandle" ∧ yX0_paceBehind.cls ≠ "java/lang/invoke/VarHandle" ∧ (parseMethodDescriptor yX0_paceBehind.desc).map (fun d => d.parameters.length) = some 2 := by decide +kernel
theorem dX0_paceBehind_0 : decode cX0_paceBehind 0 = .ok (.aload_n 0, 1) := by decide +kernel
theorem dX0_paceBehind_1 : decode cX0_paceBehind 1 = .ok (.getfield 21, 3) := by decide +kernel
theorem dX0_paceBehind_4 : decode cX0_paceBehind 4 = .ok (.iload_n 1, 1) := by decide +kernel
theorem dX0_paceBehind_5 : decode cX0_paceBehind 5 = .ok (.iaload, 1) := by decide +kernel
theorem dX0_paceBehind_6 : decode cX0_paceBehind 6 = .ok (.istore_n 3, 1) := by decide +kernel
theorem dX0_paceBehind_7 : decode cX0_paceBehind 7 = .ok (.iload_n 2, 1) := by decide +kernel
theorem dX0_paceBehind_8 : decode cX0_paceBehind 8 = .ok (.tableswitch 107 1 6 #[40, 77, 81, 86, 53, 45], 40) := by decide +kernel
theorem dX0_paceBehind_48 : decode cX0_paceBehind 48 = .ok (.iload_n 3, 1) := by decide +kernel
theorem dX0_paceBehind_49 : decode cX0_paceBehind 49 = .ok (.invokestatic 89, 3) := by decide +kernel
theorem dX0_paceBehind_52 : decode cX0_paceBehind 52 = .ok (.ireturn, 1) := by decide +kernel
theorem dX0_paceBehind_53 : decode cX0_paceBehind 53 = .ok (.iload_n 3, 1) := by decide +kernel
theorem dX0_paceBehind_54 : decode cX0_paceBehind 54 = .ok (.invokestatic 89, 3) := by decide +kernel
theorem dX0_paceBehind_57 : decode cX0_paceBehind 57 = .ok (.invokestatic 89, 3) := by decide +kernel
theorem dX0_paceBehind_60 : decode cX0_paceBehind 60 = .ok (.ireturn, 1) := by decide +kernel
theorem dX0_paceBehind_61 : decode cX0_paceBehind 61 = .ok (.iload_n 3, 1) := by decide +kernel
theorem dX0_paceBehind_62 : decode cX0_paceBehind 62 = .ok (.iconst 2, 1) := by decide +kernel
theorem dX0_paceBehind_63 : decode cX0_paceBehind 63 = .ok (.idiv, 1) := by decide +kernel
theorem dX0_paceBehind_64 : decode cX0_paceBehind 64 = .ok (.aload_n 0, 1) := by decide +kernel
theorem dX0_paceBehind_65 : decode cX0_paceBehind 65 = .ok (.getfield 43, 3) := by decide +kernel
theorem dX0_paceBehind_68 : decode cX0_paceBehind 68 = .ok (.iconst 2, 1) := by decide +kernel
theorem dX0_paceBehind_69 : decode cX0_paceBehind 69 = .ok (.irem, 1) := by decide +kernel
theorem dX0_paceBehind_70 : decode cX0_paceBehind 70 = .ok (.iconst 1, 1) := by decide +kernel
theorem dX0_paceBehind_71 : decode cX0_paceBehind 71 = .ok (.if_icmp .ne 11, 3) := by decide +kernel
theorem dX0_paceBehind_74 : decode cX0_paceBehind 74 = .ok (.iload_n 3, 1) := by decide +kernel
theorem dX0_paceBehind_75 : decode cX0_paceBehind 75 = .ok (.ifCond .eq 7, 3) := by decide +kernel
theorem dX0_paceBehind_78 : decode cX0_paceBehind 78 = .ok (.iconst 1, 1) := by decide +kernel
theorem dX0_paceBehind_79 : decode cX0_paceBehind 79 = .ok (.goto 4, 3) := by decide +kernel
theorem dX0_paceBehind_82 : decode cX0_paceBehind 82 = .ok (.iconst 0, 1) := by decide +kernel
theorem dX0_paceBehind_83 : decode cX0_paceBehind 83 = .ok (.iadd, 1) := by decide +kernel
theorem dX0_paceBehind_84 : decode cX0_paceBehind 84 = .ok (.ireturn, 1) := by decide +kernel
theorem dX0_paceBehind_85 : decode cX0_paceBehind 85 = .ok (.iconst 2, 1) := by decide +kernel
theorem dX0_paceBehind_86 : decode cX0_paceBehind 86 = .ok (.iload_n 3, 1) := by decide +kernel
theorem dX0_paceBehind_87 : decode cX0_paceBehind 87 = .ok (.imul, 1) := by decide +kernel
theorem dX0_paceBehind_88 : decode cX0_paceBehind 88 = .ok (.ireturn, 1) := by decide +kernel
theorem dX0_paceBehind_89 : decode cX0_paceBehind 89 = .ok (.bipush (-2), 2) := by decide +kernel
theorem dX0_paceBehind_91 : decode cX0_paceBehind 91 = .ok (.iload_n 3, 1) := by decide +kernel
theorem dX0_paceBehind_92 : decode cX0_paceBehind 92 = .ok (.imul, 1) := by decide +kernel
theorem dX0_paceBehind_93 : decode cX0_paceBehind 93 = .ok (.ireturn, 1) := by decide +kernel
theorem dX0_paceBehind_94 : decode cX0_paceBehind 94 = .ok (.bipush (-2), 2) := by decide +kernel
theorem dX0_paceBehind_96 : decode cX0_paceBehind 96 = .ok (.iload_n 3, 1) := by decide +kernel
theorem dX0_paceBehind_97 : decode cX0_paceBehind 97 = .ok (.imul, 1) := by decide +kernel
theorem dX0_paceBehind_98 : decode cX0_paceBehind 98 = .ok (.aload_n 0, 1) := by decide +kernel
theorem dX0_paceBehind_99 : decode cX0_paceBehind 99 = .ok (.getfield 24, 3) := by decide +kernel
theorem dX0_paceBehind_102 : decode cX0_paceBehind 102 = .ok (.iload_n 1, 1) := by decide +kernel
theorem dX0_paceBehind_103 : decode cX0_paceBehind 103 = .ok (.iaload, 1) := by decide +kernel
theorem dX0_paceBehind_104 : decode cX0_paceBehind 104 = .ok (.iconst 1, 1) := by decide +kernel
theorem dX0_paceBehind_105 : decode cX0_paceBehind 105 = .ok (.if_icmp .ne 7, 3) := by decide +kernel
theorem dX0_paceBehind_108 : decode cX0_paceBehind 108 = .ok (.iconst 3, 1) := by decide +kernel
theorem dX0_paceBehind_109 : decode cX0_paceBehind 109 = .ok (.goto 4, 3) := by decide +kernel
theorem dX0_paceBehind_112 : decode cX0_paceBehind 112 = .ok (.iconst 0, 1) := by decide +kernel
theorem dX0_paceBehind_113 : decode cX0_paceBehind 113 = .ok (.iadd, 1) := by decide +kernel
theorem dX0_paceBehind_114 : decode cX0_paceBehind 114 = .ok (.ireturn, 1) := by decide +kernel
theorem dX0_paceBehind_115 : decode cX0_paceBehind 115 = .ok (.iload_n 3, 1) := by decide +kernel
theorem dX0_paceBehind_116 : decode cX0_paceBehind 116 = .ok (.ireturn, 1) := by decide +kernel
set_option maxHeartbeats 4000000 in
set_option maxRecDepth 100000 in
theorem g_X0_paceBehind {E : fh_E} {M : fh_M} (C : fh_Cx E M cX0_paceBehind 4 RX0 ((some FieldType.int)) rm_X0_paceBehind) (Hr : fh_Rt E M) (k1 : Nat) (a2 : Int32) (a3 : Int32) (σ4 : fh_S) : fh_Go E M 4 fh_vI 0 [(0, .ref (fh_ad E k1)), (1, .int a2), (2, .int a3)] [] σ4 (f_X0_paceBehind k1 a2 a3 σ4) := by
  have hok := fh_cok C
  refine go_ob ?_
  refine go_aload_n C 0 rfl rfl dX0_paceBehind_0 ?_
  refine go_gr (ci := 0) (j := 3) C fh_in0 rfl (by decide) rfl q_36 dX0_paceBehind_1 (fun k5 => ?_)
  refine go_iload_n C 1 rfl rfl dX0_paceBehind_4 ?_
  refine go_iald C dX0_paceBehind_5 (fun v6 => ?_)
  refine go_istore_n C [(3, .int v6), (0, .ref (fh_ad E k1)), (1, .int a2), (2, .int a3)] rfl rfl (by decide) dX0_paceBehind_6 ?_
  refine go_iload_n C 3 rfl rfl dX0_paceBehind_7 ?_
  refine go_sw C (1 : Int32) 48 dX0_paceBehind_8 (by decide) (by decide) rfl rfl ?_ (fun hn9 => ?_)
  · refine go_iload_n C 0 rfl rfl dX0_paceBehind_48 ?_
    refine go_callSI C (st := []) [.int v6] (m_X0_lateOf E _ hok v6 σ4) rfl ⟨q_208, q_209, q_2, q_210⟩ pd_X0_lateOf rfl ⟨⟨Nat.le_of_ble_eq_true rfl, Nat.le_of_ble_eq_true rfl⟩, rfl, rfl⟩ (Nat.le_of_ble_eq_true rfl) dX0_paceBehind_49 (fun r8 σ7 => ?_)
    exact go_iret C Hr rfl dX0_paceBehind_52
  refine go_sw C (2 : Int32) 85 dX0_paceBehind_8 (by decide) (by decide) rfl rfl ?_ (fun hn10 => ?_)
  · refine go_iconst C (2 : Int32) dX0_paceBehind_85 rfl ?_
    refine go_iload_n C 0 rfl rfl dX0_paceBehind_86 ?_
    refine go_imul C dX0_paceBehind_87 ?_
    exact go_iret C Hr rfl dX0_paceBehind_88
  refine go_sw C (3 : Int32) 89 dX0_paceBehind_8 (by decide) (by decide) rfl rfl ?_ (fun hn11 => ?_)
  · refine go_bipush C (-2 : Int32) dX0_paceBehind_89 rfl ?_
    refine go_iload_n C 0 rfl rfl dX0_paceBehind_91 ?_
    refine go_imul C dX0_paceBehind_92 ?_
    exact go_iret C Hr rfl dX0_paceBehind_93
  refine go_sw C (4 : Int32) 94 dX0_paceBehind_8 (by decide) (by decide) rfl rfl ?_ (fun hn17 => ?_)
  · refine go_bipush C (-2 : Int32) dX0_paceBehind_94 rfl ?_
    refine go_iload_n C 0 rfl rfl dX0_paceBehind_96 ?_
    refine go_imul C dX0_paceBehind_97 ?_
    refine go_aload_n C 1 rfl rfl dX0_paceBehind_98 ?_
    refine go_gr (ci := 0) (j := 4) C fh_in0 rfl (by decide) rfl q_39 dX0_paceBehind_99 (fun k12 => ?_)
    refine go_iload_n C 2 rfl rfl dX0_paceBehind_102 ?_
    refine go_iald C dX0_paceBehind_103 (fun v13 => ?_)
    refine go_iconst C (1 : Int32) dX0_paceBehind_104 rfl ?_
    refine go_jn (fun (j16 : Int32 → fh_S → Option (Int32 × fh_S)) => ∀ (x14 : Int32) (σ15 : fh_S), fh_Go E M 4 fh_vI 113 [] [.int x14, .int (((-2 : Int32)) * v6)] σ15 (j16 x14 σ15)) ?_ (fun j16 hj16 => ?_)
    · intro x14 σ15
      refine go_iadd C dX0_paceBehind_113 ?_
      exact go_iret C Hr rfl dX0_paceBehind_114
    refine go_icmp_ne (tgt := 112) C dX0_paceBehind_105 rfl (fun _ => ?_) (fun _ => ?_)
    · refine go_iconst C (0 : Int32) dX0_paceBehind_112 rfl ?_
      refine go_lv [] (lv' := []) rfl ?_
      exact hj16 ((0 : Int32)) σ4
    · refine go_iconst C (3 : Int32) dX0_paceBehind_108 rfl ?_
      refine go_goto C 113 dX0_paceBehind_109 rfl ?_
      refine go_lv [] (lv' := []) rfl ?_
      exact hj16 ((3 : Int32)) σ4
  refine go_sw C (5 : Int32) 61 dX0_paceBehind_8 (by decide) (by decide) rfl rfl ?_ (fun hn24 => ?_)
  · refine go_iload_n C 0 rfl rfl dX0_paceBehind_61 ?_
    refine go_iconst C (2 : Int32) dX0_paceBehind_62 rfl ?_
    refine go_idiv C dX0_paceBehind_63 (by decide) ?_
    refine go_aload_n C 1 rfl rfl dX0_paceBehind_64 ?_
    refine go_gi (ci := 0) (j := 10) C fh_in0 rfl (by decide) rfl q_49 dX0_paceBehind_65 (fun v18 => ?_)
    refine go_iconst C (2 : Int32) dX0_paceBehind_68 rfl ?_
    refine go_irem C dX0_paceBehind_69 (by decide) ?_
    refine go_iconst C (1 : Int32) dX0_paceBehind_70 rfl ?_
    refine go_jn (fun (j21 : Int32 → fh_S → Option (Int32 × fh_S)) => ∀ (x19 : Int32) (σ20 : fh_S), fh_Go E M 4 fh_vI 83 [] [.int x19, .int (v6 / ((2 : Int32)))] σ20 (j21 x19 σ20)) ?_ (fun j21 hj21 => ?_)
    · intro x19 σ20
      refine go_iadd C dX0_paceBehind_83 ?_
      exact go_iret C Hr rfl dX0_paceBehind_84
    refine go_jn (fun (j23 : fh_S → Option (Int32 × fh_S)) => ∀ (σ22 : fh_S), fh_Go E M 4 fh_vI 82 [] [.int (v6 / ((2 : Int32)))] σ22 (j23 σ22)) ?_ (fun j23 hj23 => ?_)
    · intro σ22
      refine go_iconst C (0 : Int32) dX0_paceBehind_82 rfl ?_
      exact hj21 ((0 : Int32)) σ22
    refine go_icmp_ne (tgt := 82) C dX0_paceBehind_71 rfl (fun _ => ?_) (fun _ => ?_)
    · refine go_lv [] (lv' := []) rfl ?_
      exact hj23 σ4
    · refine go_iload_n C 0 rfl rfl dX0_paceBehind_74 ?_
      refine go_if_eq (tgt := 82) C dX0_paceBehind_75 rfl (fun _ => ?_) (fun _ => ?_)
      · refine go_lv [] (lv' := []) rfl ?_
        exact hj23 σ4
      · refine go_iconst C (1 : Int32) dX0_paceBehind_78 rfl ?_
        refine go_goto C 83 dX0_paceBehind_79 rfl ?_
        refine go_lv [] (lv' := []) rfl ?_
        exact hj21 ((1 : Int32)) σ4
  refine go_sw C (6 : Int32) 53 dX0_paceBehind_8 (by decide) (by decide) rfl rfl ?_ (fun hn29 => ?_)
  · refine go_iload_n C 0 rfl rfl dX0_paceBehind_53 ?_
    refine go_callSI C (st := []) [.int v6] (m_X0_lateOf E _ hok v6 σ4) rfl ⟨q_208, q_209, q_2, q_210⟩ pd_X0_lateOf rfl ⟨⟨Nat.le_of_ble_eq_true rfl, Nat.le_of_ble_eq_true rfl⟩, rfl, rfl⟩ (Nat.le_of_ble_eq_true rfl) dX0_paceBehind_54 (fun r26 σ25 => ?_)
    refine go_callSI C (st := []) [.int r26] (m_X0_lateOf E _ hok r26 σ25) rfl ⟨q_208, q_209, q_2, q_210⟩ pd_X0_lateOf rfl ⟨⟨Nat.le_of_ble_eq_true rfl, Nat.le_of_ble_eq_true rfl⟩, rfl, rfl⟩ (Nat.le_of_ble_eq_true rfl) dX0_paceBehind_57 (fun r28 σ27 => ?_)
    exact go_iret C Hr rfl dX0_paceBehind_60
  refine go_swd C 115 dX0_paceBehind_8 (by have hh0 := fh_ne (z := 1) hn9 (by decide); have hh1 := fh_ne (z := 2) hn10 (by decide); have hh2 := fh_ne (z := 3) hn11 (by decide); have hh3 := fh_ne (z := 4) hn17 (by decide); have hh4 := fh_ne (z := 5) hn24 (by decide); have hh5 := fh_ne (z := 6) hn29 (by decide); omega) rfl ?_
  refine go_iload_n C 0 rfl rfl dX0_paceBehind_115 ?_
  exact go_iret C Hr rfl dX0_paceBehind_116
theorem m_X0_paceBehind (E : fh_E) (l : Launch) (hok : fh_ok E) (k1 : Nat) (a2 : Int32) (a3 : Int32) (σ4 : fh_S) : fh_Met E l yX0_paceBehind cX0_paceBehind 4 ((some FieldType.int)) rm_X0_paceBehind fh_vI [.ref (fh_ad E k1), .int a2, .int a3] σ4 (f_X0_paceBehind k1 a2 a3 σ4) := fh_met hok (by decide +kernel) (Nat.le_of_ble_eq_true rfl) (fun M _ C Hr => g_X0_paceBehind C Hr k1 a2 a3 σ4)
def f_J9_abs_0f7a4 (a1 : Int32) (σ2 : fh_S) : Option (Int32 × fh_S) := if 0 ≤ a1 then some (a1, σ2) else some (-a1, σ2)
abbrev rm_J9_abs_0f7a4 : Room := { frames := 0, cells := 0, slots := 0, locals := 0 }
theorem pd_J9_abs_0f7a4 : yJ9_abs_0f7a4.cls ≠ "java/lang/invoke/MethodHandle" ∧ yJ9_abs_0f7a4.cls ≠ "java/lang/invoke/VarHandle" ∧ (parseMethodDescriptor yJ9_abs_0f7a4.desc).map (fun d => d.parameters.length) = some 1 := by decide +kernel
theorem dJ9_abs_0f7a4_0 : decode cJ9_abs_0f7a4 0 = .ok (.iload_n 0, 1) := by decide +kernel
theorem dJ9_abs_0f7a4_1 : decode cJ9_abs_0f7a4 1 = .ok (.ifCond .ge 8, 3) := by decide +kernel
theorem dJ9_abs_0f7a4_4 : decode cJ9_abs_0f7a4 4 = .ok (.iload_n 0, 1) := by decide +kernel
theorem dJ9_abs_0f7a4_5 : decode cJ9_abs_0f7a4 5 = .ok (.ineg, 1) := by decide +kernel
theorem dJ9_abs_0f7a4_6 : decode cJ9_abs_0f7a4 6 = .ok (.goto 4, 3) := by decide +kernel
theorem dJ9_abs_0f7a4_9 : decode cJ9_abs_0f7a4 9 = .ok (.iload_n 0, 1) := by decide +kernel
theorem dJ9_abs_0f7a4_10 : decode cJ9_abs_0f7a4 10 = .ok (.ireturn, 1) := by decide +kernel
set_option maxHeartbeats 4000000 in
set_option maxRecDepth 100000 in
theorem g_J9_abs_0f7a4 {E : fh_E} {M : fh_M} (C : fh_Cx E M cJ9_abs_0f7a4 1 RJ9 ((some FieldType.int)) rm_J9_abs_0f7a4) (Hr : fh_Rt E M) (a1 : Int32) (σ2 : fh_S) : fh_Go E M 1 fh_vI 0 [(0, .int a1)] [] σ2 (f_J9_abs_0f7a4 a1 σ2) := by
  have hok := fh_cok C
  refine go_iload_n C 0 rfl rfl dJ9_abs_0f7a4_0 ?_
  refine go_if_ge (tgt := 9) C dJ9_abs_0f7a4_1 rfl (fun _ => ?_) (fun _ => ?_)
  · refine go_iload_n C 0 rfl rfl dJ9_abs_0f7a4_9 ?_
    exact go_iret C Hr rfl dJ9_abs_0f7a4_10
  · refine go_iload_n C 0 rfl rfl dJ9_abs_0f7a4_4 ?_
    refine go_ineg C dJ9_abs_0f7a4_5 ?_
    refine go_goto C 10 dJ9_abs_0f7a4_6 rfl ?_
    exact go_iret C Hr rfl dJ9_abs_0f7a4_10
theorem m_J9_abs_0f7a4 (E : fh_E) (l : Launch) (hok : fh_ok E) (a1 : Int32) (σ2 : fh_S) : fh_Met E l yJ9_abs_0f7a4 cJ9_abs_0f7a4 1 ((some FieldType.int)) rm_J9_abs_0f7a4 fh_vI [.int a1] σ2 (f_J9_abs_0f7a4 a1 σ2) := fh_met hok (by decide +kernel) (Nat.le_of_ble_eq_true rfl) (fun M _ C Hr => g_J9_abs_0f7a4 C Hr a1 σ2)
def f_J9_max_7cf53 (a1 : Int32) (a2 : Int32) (σ3 : fh_S) : Option (Int32 × fh_S) := if a1 < a2 then some (a2, σ3) else some (a1, σ3)
abbrev rm_J9_max_7cf53 : Room := { frames := 0, cells := 0, slots := 0, locals := 0 }
theorem pd_J9_max_7cf53 : yJ9_max_7cf53.cls ≠ "java/lang/invoke/MethodHandle" ∧ yJ9_max_7cf53.cls ≠ "java/lang/invoke/VarHandle" ∧ (parseMethodDescriptor yJ9_max_7cf53.desc).map (fun d => d.parameters.length) = some 2 := by decide +kernel
theorem dJ9_max_7cf53_0 : decode cJ9_max_7cf53 0 = .ok (.iload_n 0, 1) := by decide +kernel
theorem dJ9_max_7cf53_1 : decode cJ9_max_7cf53 1 = .ok (.iload_n 1, 1) := by decide +kernel
theorem dJ9_max_7cf53_2 : decode cJ9_max_7cf53 2 = .ok (.if_icmp .lt 7, 3) := by decide +kernel
theorem dJ9_max_7cf53_5 : decode cJ9_max_7cf53 5 = .ok (.iload_n 0, 1) := by decide +kernel
theorem dJ9_max_7cf53_6 : decode cJ9_max_7cf53 6 = .ok (.goto 4, 3) := by decide +kernel
theorem dJ9_max_7cf53_9 : decode cJ9_max_7cf53 9 = .ok (.iload_n 1, 1) := by decide +kernel
theorem dJ9_max_7cf53_10 : decode cJ9_max_7cf53 10 = .ok (.ireturn, 1) := by decide +kernel
set_option maxHeartbeats 4000000 in
set_option maxRecDepth 100000 in
theorem g_J9_max_7cf53 {E : fh_E} {M : fh_M} (C : fh_Cx E M cJ9_max_7cf53 2 RJ9 ((some FieldType.int)) rm_J9_max_7cf53) (Hr : fh_Rt E M) (a1 : Int32) (a2 : Int32) (σ3 : fh_S) : fh_Go E M 2 fh_vI 0 [(0, .int a1), (1, .int a2)] [] σ3 (f_J9_max_7cf53 a1 a2 σ3) := by
  have hok := fh_cok C
  refine go_iload_n C 0 rfl rfl dJ9_max_7cf53_0 ?_
  refine go_iload_n C 1 rfl rfl dJ9_max_7cf53_1 ?_
  refine go_icmp_lt (tgt := 9) C dJ9_max_7cf53_2 rfl (fun _ => ?_) (fun _ => ?_)
  · refine go_iload_n C 1 rfl rfl dJ9_max_7cf53_9 ?_
    exact go_iret C Hr rfl dJ9_max_7cf53_10
  · refine go_iload_n C 0 rfl rfl dJ9_max_7cf53_5 ?_
    refine go_goto C 10 dJ9_max_7cf53_6 rfl ?_
    exact go_iret C Hr rfl dJ9_max_7cf53_10
theorem m_J9_max_7cf53 (E : fh_E) (l : Launch) (hok : fh_ok E) (a1 : Int32) (a2 : Int32) (σ3 : fh_S) : fh_Met E l yJ9_max_7cf53 cJ9_max_7cf53 2 ((some FieldType.int)) rm_J9_max_7cf53 fh_vI [.int a1, .int a2] σ3 (f_J9_max_7cf53 a1 a2 σ3) := fh_met hok (by decide +kernel) (Nat.le_of_ble_eq_true rfl) (fun M _ C Hr => g_J9_max_7cf53 C Hr a1 a2 σ3)
def f_X0_paceOf_J32 (k1 : Nat) (a2 : Int32) : Int32 → fh_S → Option (Int32 × fh_S) := fun x6 σ7 => fh_cb (f_J9_abs_0f7a4 x6 σ7) fun r9 σ8 => (fh_gr 0 k1 5).bind fun k10 => (fh_ld σ8 k10 a2).bind fun v11 => fh_cb (f_J9_max_7cf53 ((0 : Int32)) (r9 - v11) σ8) fun r13 σ12 => fh_cb (f_J9_min_7cf53 r13 ((99 : Int32)) σ12) fun r15 σ14 => if 0 ≤ x6 then some (r15, σ14) else some (-r15, σ14)
def f_X0_paceOf (k1 : Nat) (a2 : Int32) (σ3 : fh_S) : Option (Int32 × fh_S) := fh_ob 0 k1 ((fh_gr 0 k1 2).bind fun k4 => (fh_ld σ3 k4 a2).bind fun v5 => fh_jn (f_X0_paceOf_J32 k1 a2) (fun j16 => if v5 = a2 then (fh_gr 0 k1 3).bind fun k21 => (fh_ld σ3 k21 a2).bind fun v22 => j16 v22 σ3 else (fh_gr 0 k1 0).bind fun k17 => (fh_ld σ3 k17 a2).bind fun v18 => fh_cb (f_X0_paceBehind k1 v5 v18 σ3) fun r20 σ19 => j16 r20 σ19))
abbrev rm_X0_paceOf : Room := { frames := 2, cells := 0, slots := 0, locals := 43 }
theorem pd_X0_paceOf : yX0_paceOf.cls ≠ "java/lang/invoke/MethodHandle" ∧ yX0_paceOf.cls ≠ "java/lang/invoke/VarHandle" ∧ (parseMethodDescriptor yX0_paceOf.desc).map (fun d => d.parameters.length) = some 1 := by decide +kernel
theorem dX0_paceOf_0 : decode cX0_paceOf 0 = .ok (.aload_n 0, 1) := by decide +kernel
theorem dX0_paceOf_1 : decode cX0_paceOf 1 = .ok (.getfield 18, 3) := by decide +kernel
theorem dX0_paceOf_4 : decode cX0_paceOf 4 = .ok (.iload_n 1, 1) := by decide +kernel
theorem dX0_paceOf_5 : decode cX0_paceOf 5 = .ok (.iaload, 1) := by decide +kernel
theorem dX0_paceOf_6 : decode cX0_paceOf 6 = .ok (.istore_n 2, 1) := by decide +kernel
theorem dX0_paceOf_7 : decode cX0_paceOf 7 = .ok (.iload_n 2, 1) := by decide +kernel
theorem dX0_paceOf_8 : decode cX0_paceOf 8 = .ok (.iload_n 1, 1) := by decide +kernel
theorem dX0_paceOf_9 : decode cX0_paceOf 9 = .ok (.if_icmp .ne 12, 3) := by decide +kernel
theorem dX0_paceOf_12 : decode cX0_paceOf 12 = .ok (.aload_n 0, 1) := by decide +kernel
theorem dX0_paceOf_13 : decode cX0_paceOf 13 = .ok (.getfield 21, 3) := by decide +kernel
theorem dX0_paceOf_16 : decode cX0_paceOf 16 = .ok (.iload_n 1, 1) := by decide +kernel
theorem dX0_paceOf_17 : decode cX0_paceOf 17 = .ok (.iaload, 1) := by decide +kernel
theorem dX0_paceOf_18 : decode cX0_paceOf 18 = .ok (.goto 14, 3) := by decide +kernel
theorem dX0_paceOf_21 : decode cX0_paceOf 21 = .ok (.aload_n 0, 1) := by decide +kernel
theorem dX0_paceOf_22 : decode cX0_paceOf 22 = .ok (.iload_n 2, 1) := by decide +kernel
theorem dX0_paceOf_23 : decode cX0_paceOf 23 = .ok (.aload_n 0, 1) := by decide +kernel
theorem dX0_paceOf_24 : decode cX0_paceOf 24 = .ok (.getfield 9, 3) := by decide +kernel
theorem dX0_paceOf_27 : decode cX0_paceOf 27 = .ok (.iload_n 1, 1) := by decide +kernel
theorem dX0_paceOf_28 : decode cX0_paceOf 28 = .ok (.iaload, 1) := by decide +kernel
theorem dX0_paceOf_29 : decode cX0_paceOf 29 = .ok (.invokevirtual 80, 3) := by decide +kernel
theorem dX0_paceOf_32 : decode cX0_paceOf 32 = .ok (.istore_n 3, 1) := by decide +kernel
theorem dX0_paceOf_33 : decode cX0_paceOf 33 = .ok (.iconst 0, 1) := by decide +kernel
theorem dX0_paceOf_34 : decode cX0_paceOf 34 = .ok (.iload_n 3, 1) := by decide +kernel
theorem dX0_paceOf_35 : decode cX0_paceOf 35 = .ok (.invokestatic 83, 3) := by decide +kernel
theorem dX0_paceOf_38 : decode cX0_paceOf 38 = .ok (.aload_n 0, 1) := by decide +kernel
theorem dX0_paceOf_39 : decode cX0_paceOf 39 = .ok (.getfield 27, 3) := by decide +kernel
theorem dX0_paceOf_42 : decode cX0_paceOf 42 = .ok (.iload_n 1, 1) := by decide +kernel
theorem dX0_paceOf_43 : decode cX0_paceOf 43 = .ok (.iaload, 1) := by decide +kernel
theorem dX0_paceOf_44 : decode cX0_paceOf 44 = .ok (.isub, 1) := by decide +kernel
theorem dX0_paceOf_45 : decode cX0_paceOf 45 = .ok (.invokestatic 86, 3) := by decide +kernel
theorem dX0_paceOf_48 : decode cX0_paceOf 48 = .ok (.istore 4, 2) := by decide +kernel
theorem dX0_paceOf_50 : decode cX0_paceOf 50 = .ok (.iload 4, 2) := by decide +kernel
theorem dX0_paceOf_52 : decode cX0_paceOf 52 = .ok (.bipush 99, 2) := by decide +kernel
theorem dX0_paceOf_54 : decode cX0_paceOf 54 = .ok (.invokestatic 55, 3) := by decide +kernel
theorem dX0_paceOf_57 : decode cX0_paceOf 57 = .ok (.istore 5, 2) := by decide +kernel
theorem dX0_paceOf_59 : decode cX0_paceOf 59 = .ok (.iload_n 3, 1) := by decide +kernel
theorem dX0_paceOf_60 : decode cX0_paceOf 60 = .ok (.ifCond .ge 9, 3) := by decide +kernel
theorem dX0_paceOf_63 : decode cX0_paceOf 63 = .ok (.iload 5, 2) := by decide +kernel
theorem dX0_paceOf_65 : decode cX0_paceOf 65 = .ok (.ineg, 1) := by decide +kernel
theorem dX0_paceOf_66 : decode cX0_paceOf 66 = .ok (.goto 5, 3) := by decide +kernel
theorem dX0_paceOf_69 : decode cX0_paceOf 69 = .ok (.iload 5, 2) := by decide +kernel
theorem dX0_paceOf_71 : decode cX0_paceOf 71 = .ok (.ireturn, 1) := by decide +kernel
set_option maxHeartbeats 4000000 in
set_option maxRecDepth 100000 in
theorem g_X0_paceOf {E : fh_E} {M : fh_M} (C : fh_Cx E M cX0_paceOf 6 RX0 ((some FieldType.int)) rm_X0_paceOf) (Hr : fh_Rt E M) (k1 : Nat) (a2 : Int32) (σ3 : fh_S) : fh_Go E M 6 fh_vI 0 [(0, .ref (fh_ad E k1)), (1, .int a2)] [] σ3 (f_X0_paceOf k1 a2 σ3) := by
  have hok := fh_cok C
  refine go_ob ?_
  refine go_aload_n C 0 rfl rfl dX0_paceOf_0 ?_
  refine go_gr (ci := 0) (j := 2) C fh_in0 rfl (by decide) rfl q_33 dX0_paceOf_1 (fun k4 => ?_)
  refine go_iload_n C 1 rfl rfl dX0_paceOf_4 ?_
  refine go_iald C dX0_paceOf_5 (fun v5 => ?_)
  refine go_istore_n C [(2, .int v5), (0, .ref (fh_ad E k1)), (1, .int a2)] rfl rfl (by decide) dX0_paceOf_6 ?_
  refine go_iload_n C 0 rfl rfl dX0_paceOf_7 ?_
  refine go_iload_n C 2 rfl rfl dX0_paceOf_8 ?_
  refine go_jn (fun (j16 : Int32 → fh_S → Option (Int32 × fh_S)) => ∀ (x6 : Int32) (σ7 : fh_S), fh_Go E M 6 fh_vI 32 [(0, .ref (fh_ad E k1)), (1, .int a2)] [.int x6] σ7 (j16 x6 σ7)) ?_ (fun j16 hj16 => ?_)
  · intro x6 σ7
    refine go_istore_n C [(3, .int x6), (0, .ref (fh_ad E k1)), (1, .int a2)] rfl rfl (by decide) dX0_paceOf_32 ?_
    refine go_iconst C (0 : Int32) dX0_paceOf_33 rfl ?_
    refine go_iload_n C 0 rfl rfl dX0_paceOf_34 ?_
    refine go_callSI C (st := [.int ((0 : Int32))]) [.int x6] (m_J9_abs_0f7a4 E _ hok x6 σ7) rfl ⟨q_211, q_212, q_7, q_213⟩ pd_J9_abs_0f7a4 rfl ⟨⟨Nat.le_of_ble_eq_true rfl, Nat.le_of_ble_eq_true rfl⟩, rfl, rfl⟩ (Nat.le_of_ble_eq_true rfl) dX0_paceOf_35 (fun r9 σ8 => ?_)
    refine go_aload_n C 1 rfl rfl dX0_paceOf_38 ?_
    refine go_gr (ci := 0) (j := 5) C fh_in0 rfl (by decide) rfl q_40 dX0_paceOf_39 (fun k10 => ?_)
    refine go_iload_n C 2 rfl rfl dX0_paceOf_42 ?_
    refine go_iald C dX0_paceOf_43 (fun v11 => ?_)
    refine go_isub C dX0_paceOf_44 ?_
    refine go_callSI C (st := []) [.int ((0 : Int32)), .int (r9 - v11)] (m_J9_max_7cf53 E _ hok ((0 : Int32)) (r9 - v11) σ8) rfl ⟨q_214, q_215, q_7, q_216⟩ pd_J9_max_7cf53 rfl ⟨⟨Nat.le_of_ble_eq_true rfl, Nat.le_of_ble_eq_true rfl⟩, rfl, rfl⟩ (Nat.le_of_ble_eq_true rfl) dX0_paceOf_45 (fun r13 σ12 => ?_)
    refine go_istore C [(4, .int r13), (3, .int x6), (0, .ref (fh_ad E k1)), (1, .int a2)] rfl (by decide) dX0_paceOf_48 ?_
    refine go_iload C 0 rfl dX0_paceOf_50 ?_
    refine go_bipush C (99 : Int32) dX0_paceOf_52 rfl ?_
    refine go_callSI C (st := []) [.int r13, .int ((99 : Int32))] (m_J9_min_7cf53 E _ hok r13 ((99 : Int32)) σ12) rfl ⟨q_189, q_190, q_7, q_191⟩ pd_J9_min_7cf53 rfl ⟨⟨Nat.le_of_ble_eq_true rfl, Nat.le_of_ble_eq_true rfl⟩, rfl, rfl⟩ (Nat.le_of_ble_eq_true rfl) dX0_paceOf_54 (fun r15 σ14 => ?_)
    refine go_istore C [(5, .int r15), (4, .int r13), (3, .int x6), (0, .ref (fh_ad E k1)), (1, .int a2)] rfl (by decide) dX0_paceOf_57 ?_
    refine go_iload_n C 2 rfl rfl dX0_paceOf_59 ?_
    refine go_if_ge (tgt := 69) C dX0_paceOf_60 rfl (fun _ => ?_) (fun _ => ?_)
    · refine go_iload C 0 rfl dX0_paceOf_69 ?_
      exact go_iret C Hr rfl dX0_paceOf_71
    · refine go_iload C 0 rfl dX0_paceOf_63 ?_
      refine go_ineg C dX0_paceOf_65 ?_
      refine go_goto C 71 dX0_paceOf_66 rfl ?_
      exact go_iret C Hr rfl dX0_paceOf_71
  refine go_icmp_ne (tgt := 21) C dX0_paceOf_9 rfl (fun _ => ?_) (fun _ => ?_)
  · refine go_aload_n C 1 rfl rfl dX0_paceOf_21 ?_
    refine go_iload_n C 0 rfl rfl dX0_paceOf_22 ?_
    refine go_aload_n C 1 rfl rfl dX0_paceOf_23 ?_
    refine go_gr (ci := 0) (j := 0) C fh_in0 rfl (by decide) rfl q_28 dX0_paceOf_24 (fun k17 => ?_)
    refine go_iload_n C 2 rfl rfl dX0_paceOf_27 ?_
    refine go_iald C dX0_paceOf_28 (fun v18 => ?_)
    refine go_callVI C (st := []) [.int v5, .int v18] (m_X0_paceBehind E _ hok k1 v5 v18 σ3) (fun _ h => fh_ob_ok h) rfl rfl ⟨q_204, q_206, qs_1, q_2, q_207⟩ pd_X0_paceBehind rfl ⟨⟨Nat.le_of_ble_eq_true rfl, Nat.le_of_ble_eq_true rfl⟩, rfl, rfl⟩ (Nat.le_of_ble_eq_true rfl) dX0_paceOf_29 (fun r20 σ19 => ?_)
    refine go_lv [1, 2] (lv' := [(0, .ref (fh_ad E k1)), (1, .int a2)]) rfl ?_
    exact hj16 r20 σ19
  · refine go_aload_n C 1 rfl rfl dX0_paceOf_12 ?_
    refine go_gr (ci := 0) (j := 3) C fh_in0 rfl (by decide) rfl q_36 dX0_paceOf_13 (fun k21 => ?_)
    refine go_iload_n C 2 rfl rfl dX0_paceOf_16 ?_
    refine go_iald C dX0_paceOf_17 (fun v22 => ?_)
    refine go_goto C 32 dX0_paceOf_18 rfl ?_
    refine go_lv [1, 2] (lv' := [(0, .ref (fh_ad E k1)), (1, .int a2)]) rfl ?_
    exact hj16 v22 σ3
theorem m_X0_paceOf (E : fh_E) (l : Launch) (hok : fh_ok E) (k1 : Nat) (a2 : Int32) (σ3 : fh_S) : fh_Met E l yX0_paceOf cX0_paceOf 6 ((some FieldType.int)) rm_X0_paceOf fh_vI [.ref (fh_ad E k1), .int a2] σ3 (f_X0_paceOf k1 a2 σ3) := fh_met hok (by decide +kernel) (Nat.le_of_ble_eq_true rfl) (fun M _ C Hr => g_X0_paceOf C Hr k1 a2 σ3)
def f_X0_passTick_B43 (k1 : Nat) (r9 : Int32 → fh_S → Option (Unit × fh_S)) : Int32 → fh_S → Option (Unit × fh_S) := fun x7 σ8 => (fh_gi σ8 0 k1 9).bind fun v10 => if v10 ≤ x7 then (fh_gi σ8 0 k1 10).bind fun v11 => fh_cb (f_J9_min_7cf53 (v11 + ((1 : Int32))) ((99999 : Int32)) σ8) fun r13 σ12 => (fh_pf σ12 0 k1 10 r13).bind fun σ14 => some ((), σ14) else (fh_gr 0 k1 3).bind fun k15 => (fh_gr 0 k1 7).bind fun k16 => (fh_ld σ8 k16 x7).bind fun v17 => (fh_st σ8 k15 x7 v17).bind fun σ18 => (fh_gr 0 k1 7).bind fun k19 => (fh_ld σ18 k19 x7).bind fun v20 => fh_cb (f_X0_turn k1 x7 v20 σ18) fun _ σ21 => r9 (x7 + 1) σ21
def f_X0_passTick_J34 (k22 : Nat) (x3 : Int32) (r5 : Int32 → fh_S → Option (Unit × fh_S)) : Int32 → fh_S → Option (Unit × fh_S) := fun x25 σ26 => (fh_st σ26 k22 x3 x25).bind fun σ27 => r5 (x3 + 1) σ27
def f_X0_passTick_B2 (k1 : Nat) (r5 : Int32 → fh_S → Option (Unit × fh_S)) : Int32 → fh_S → Option (Unit × fh_S) := fun x3 σ4 => (fh_gi σ4 0 k1 9).bind fun v6 => if v6 ≤ x3 then fh_fx (ρ := Int32 → fh_S → Option (Unit × fh_S)) (fun _ _ => none) (f_X0_passTick_B43 k1) fh_fu ((0 : Int32)) σ4 else (fh_gr 0 k1 7).bind fun k22 => (fh_gr 0 k1 4).bind fun k23 => (fh_ld σ4 k23 x3).bind fun v24 => fh_jn (f_X0_passTick_J34 k22 x3 r5) (fun j28 => if v24 = ((1 : Int32)) then j28 ((0 : Int32)) σ4 else fh_cb (f_X0_paceOf k1 x3 σ4) fun r30 σ29 => j28 r30 σ29)
def f_X0_passTick (k1 : Nat) (σ2 : fh_S) : Option (Unit × fh_S) := fh_ob 0 k1 (fh_fx (ρ := Int32 → fh_S → Option (Unit × fh_S)) (fun _ _ => none) (f_X0_passTick_B2 k1) fh_fu ((0 : Int32)) σ2)
abbrev rm_X0_passTick : Room := { frames := 3, cells := 0, slots := 0, locals := 68 }
theorem pd_X0_passTick : yX0_passTick.cls ≠ "java/lang/invoke/MethodHandle" ∧ yX0_passTick.cls ≠ "java/lang/invoke/VarHandle" ∧ (parseMethodDescriptor yX0_passTick.desc).map (fun d => d.parameters.length) = some 0 := by decide +kernel
theorem dX0_passTick_0 : decode cX0_passTick 0 = .ok (.iconst 0, 1) := by decide +kernel
theorem dX0_passTick_1 : decode cX0_passTick 1 = .ok (.istore_n 1, 1) := by decide +kernel
theorem dX0_passTick_2 : decode cX0_passTick 2 = .ok (.iload_n 1, 1) := by decide +kernel
theorem dX0_passTick_3 : decode cX0_passTick 3 = .ok (.aload_n 0, 1) := by decide +kernel
theorem dX0_passTick_4 : decode cX0_passTick 4 = .ok (.getfield 39, 3) := by decide +kernel
theorem dX0_passTick_7 : decode cX0_passTick 7 = .ok (.if_icmp .ge 34, 3) := by decide +kernel
theorem dX0_passTick_10 : decode cX0_passTick 10 = .ok (.aload_n 0, 1) := by decide +kernel
theorem dX0_passTick_11 : decode cX0_passTick 11 = .ok (.getfield 33, 3) := by decide +kernel
theorem dX0_passTick_14 : decode cX0_passTick 14 = .ok (.iload_n 1, 1) := by decide +kernel
theorem dX0_passTick_15 : decode cX0_passTick 15 = .ok (.aload_n 0, 1) := by decide +kernel
theorem dX0_passTick_16 : decode cX0_passTick 16 = .ok (.getfield 24, 3) := by decide +kernel
theorem dX0_passTick_19 : decode cX0_passTick 19 = .ok (.iload_n 1, 1) := by decide +kernel
theorem dX0_passTick_20 : decode cX0_passTick 20 = .ok (.iaload, 1) := by decide +kernel
theorem dX0_passTick_21 : decode cX0_passTick 21 = .ok (.iconst 1, 1) := by decide +kernel
theorem dX0_passTick_22 : decode cX0_passTick 22 = .ok (.if_icmp .ne 7, 3) := by decide +kernel
theorem dX0_passTick_25 : decode cX0_passTick 25 = .ok (.iconst 0, 1) := by decide +kernel
theorem dX0_passTick_26 : decode cX0_passTick 26 = .ok (.goto 8, 3) := by decide +kernel
theorem dX0_passTick_29 : decode cX0_passTick 29 = .ok (.aload_n 0, 1) := by decide +kernel
theorem dX0_passTick_30 : decode cX0_passTick 30 = .ok (.iload_n 1, 1) := by decide +kernel
theorem dX0_passTick_31 : decode cX0_passTick 31 = .ok (.invokevirtual 92, 3) := by decide +kernel
theorem dX0_passTick_34 : decode cX0_passTick 34 = .ok (.iastore, 1) := by decide +kernel
theorem dX0_passTick_35 : decode cX0_passTick 35 = .ok (.iinc 1 1, 3) := by decide +kernel
theorem dX0_passTick_38 : decode cX0_passTick 38 = .ok (.goto (-36), 3) := by decide +kernel
theorem dX0_passTick_41 : decode cX0_passTick 41 = .ok (.iconst 0, 1) := by decide +kernel
theorem dX0_passTick_42 : decode cX0_passTick 42 = .ok (.istore_n 1, 1) := by decide +kernel
theorem dX0_passTick_43 : decode cX0_passTick 43 = .ok (.iload_n 1, 1) := by decide +kernel
theorem dX0_passTick_44 : decode cX0_passTick 44 = .ok (.aload_n 0, 1) := by decide +kernel
theorem dX0_passTick_45 : decode cX0_passTick 45 = .ok (.getfield 39, 3) := by decide +kernel
theorem dX0_passTick_48 : decode cX0_passTick 48 = .ok (.if_icmp .ge 32, 3) := by decide +kernel
theorem dX0_passTick_51 : decode cX0_passTick 51 = .ok (.aload_n 0, 1) := by decide +kernel
theorem dX0_passTick_52 : decode cX0_passTick 52 = .ok (.getfield 21, 3) := by decide +kernel
theorem dX0_passTick_55 : decode cX0_passTick 55 = .ok (.iload_n 1, 1) := by decide +kernel
theorem dX0_passTick_56 : decode cX0_passTick 56 = .ok (.aload_n 0, 1) := by decide +kernel
theorem dX0_passTick_57 : decode cX0_passTick 57 = .ok (.getfield 33, 3) := by decide +kernel
theorem dX0_passTick_60 : decode cX0_passTick 60 = .ok (.iload_n 1, 1) := by decide +kernel
theorem dX0_passTick_61 : decode cX0_passTick 61 = .ok (.iaload, 1) := by decide +kernel
theorem dX0_passTick_62 : decode cX0_passTick 62 = .ok (.iastore, 1) := by decide +kernel
theorem dX0_passTick_63 : decode cX0_passTick 63 = .ok (.aload_n 0, 1) := by decide +kernel
theorem dX0_passTick_64 : decode cX0_passTick 64 = .ok (.iload_n 1, 1) := by decide +kernel
theorem dX0_passTick_65 : decode cX0_passTick 65 = .ok (.aload_n 0, 1) := by decide +kernel
theorem dX0_passTick_66 : decode cX0_passTick 66 = .ok (.getfield 33, 3) := by decide +kernel
theorem dX0_passTick_69 : decode cX0_passTick 69 = .ok (.iload_n 1, 1) := by decide +kernel
theorem dX0_passTick_70 : decode cX0_passTick 70 = .ok (.iaload, 1) := by decide +kernel
theorem dX0_passTick_71 : decode cX0_passTick 71 = .ok (.invokevirtual 95, 3) := by decide +kernel
theorem dX0_passTick_74 : decode cX0_passTick 74 = .ok (.iinc 1 1, 3) := by decide +kernel
theorem dX0_passTick_77 : decode cX0_passTick 77 = .ok (.goto (-34), 3) := by decide +kernel
theorem dX0_passTick_80 : decode cX0_passTick 80 = .ok (.aload_n 0, 1) := by decide +kernel
theorem dX0_passTick_81 : decode cX0_passTick 81 = .ok (.aload_n 0, 1) := by decide +kernel
theorem dX0_passTick_82 : decode cX0_passTick 82 = .ok (.getfield 43, 3) := by decide +kernel
theorem dX0_passTick_85 : decode cX0_passTick 85 = .ok (.iconst 1, 1) := by decide +kernel
theorem dX0_passTick_86 : decode cX0_passTick 86 = .ok (.iadd, 1) := by decide +kernel
theorem dX0_passTick_87 : decode cX0_passTick 87 = .ok (.ldc 99, 2) := by decide +kernel
theorem dX0_passTick_89 : decode cX0_passTick 89 = .ok (.invokestatic 55, 3) := by decide +kernel
theorem dX0_passTick_92 : decode cX0_passTick 92 = .ok (.putfield 43, 3) := by decide +kernel
theorem dX0_passTick_95 : decode cX0_passTick 95 = .ok (.return_, 1) := by decide +kernel
set_option maxHeartbeats 4000000 in
set_option maxRecDepth 100000 in
theorem g_X0_passTick {E : fh_E} {M : fh_M} (C : fh_Cx E M cX0_passTick 2 RX0 (none) rm_X0_passTick) (Hr : fh_Rt E M) (k1 : Nat) (σ2 : fh_S) : fh_Go E M 2 fh_vU 0 [(0, .ref (fh_ad E k1))] [] σ2 (f_X0_passTick k1 σ2) := by
  have hok := fh_cok C
  refine go_ob ?_
  refine go_iconst C (0 : Int32) dX0_passTick_0 rfl ?_
  refine go_istore_n C [(1, .int ((0 : Int32))), (0, .ref (fh_ad E k1))] rfl rfl (by decide) dX0_passTick_1 ?_
  refine go_lv [1, 0] (lv' := [(0, .ref (fh_ad E k1)), (1, .int ((0 : Int32)))]) rfl ?_
  refine go_fx (fun (r5 : Int32 → fh_S → Option (Unit × fh_S)) => ∀ (x3 : Int32) (σ4 : fh_S), fh_Go E M 2 fh_vU 2 [(0, .ref (fh_ad E k1)), (1, .int x3)] [] σ4 (r5 x3 σ4)) ?_ ?_ fh_fu ((0 : Int32)) σ2
  · intro x3 σ4
    exact go_none
  · intro r5 hr5 x3 σ4
    refine go_iload_n C 1 rfl rfl dX0_passTick_2 ?_
    refine go_aload_n C 0 rfl rfl dX0_passTick_3 ?_
    refine go_gi (ci := 0) (j := 9) C fh_in0 rfl (by decide) rfl q_46 dX0_passTick_4 (fun v6 => ?_)
    refine go_icmp_ge (tgt := 41) C dX0_passTick_7 rfl (fun _ => ?_) (fun _ => ?_)
    · refine go_iconst C (0 : Int32) dX0_passTick_41 rfl ?_
      refine go_istore_n C [(1, .int ((0 : Int32))), (0, .ref (fh_ad E k1))] rfl rfl (by decide) dX0_passTick_42 ?_
      refine go_lv [1, 0] (lv' := [(0, .ref (fh_ad E k1)), (1, .int ((0 : Int32)))]) rfl ?_
      refine go_fx (fun (r9 : Int32 → fh_S → Option (Unit × fh_S)) => ∀ (x7 : Int32) (σ8 : fh_S), fh_Go E M 2 fh_vU 43 [(0, .ref (fh_ad E k1)), (1, .int x7)] [] σ8 (r9 x7 σ8)) ?_ ?_ fh_fu ((0 : Int32)) σ4
      · intro x7 σ8
        exact go_none
      · intro r9 hr9 x7 σ8
        refine go_iload_n C 1 rfl rfl dX0_passTick_43 ?_
        refine go_aload_n C 0 rfl rfl dX0_passTick_44 ?_
        refine go_gi (ci := 0) (j := 9) C fh_in0 rfl (by decide) rfl q_46 dX0_passTick_45 (fun v10 => ?_)
        refine go_icmp_ge (tgt := 80) C dX0_passTick_48 rfl (fun _ => ?_) (fun _ => ?_)
        · refine go_aload_n C 0 rfl rfl dX0_passTick_80 ?_
          refine go_aload_n C 0 rfl rfl dX0_passTick_81 ?_
          refine go_gi (ci := 0) (j := 10) C fh_in0 rfl (by decide) rfl q_49 dX0_passTick_82 (fun v11 => ?_)
          refine go_iconst C (1 : Int32) dX0_passTick_85 rfl ?_
          refine go_iadd C dX0_passTick_86 ?_
          refine go_ldc C q_277 dX0_passTick_87 ?_
          refine go_callSI C (st := [.ref (fh_ad E k1)]) [.int (v11 + ((1 : Int32))), .int ((99999 : Int32))] (m_J9_min_7cf53 E _ hok (v11 + ((1 : Int32))) ((99999 : Int32)) σ8) rfl ⟨q_189, q_190, q_7, q_191⟩ pd_J9_min_7cf53 rfl ⟨⟨Nat.le_of_ble_eq_true rfl, Nat.le_of_ble_eq_true rfl⟩, rfl, rfl⟩ (Nat.le_of_ble_eq_true rfl) dX0_passTick_89 (fun r13 σ12 => ?_)
          refine go_pf (ci := 0) (j := 10) C tyX0 tyX0_ok nmX0 fh_in0 rfl (by decide) rfl q_49 rfl rfl dX0_passTick_92 (fun σ14 => ?_)
          exact go_vret C Hr rfl dX0_passTick_95
        · refine go_aload_n C 0 rfl rfl dX0_passTick_51 ?_
          refine go_gr (ci := 0) (j := 3) C fh_in0 rfl (by decide) rfl q_36 dX0_passTick_52 (fun k15 => ?_)
          refine go_iload_n C 1 rfl rfl dX0_passTick_55 ?_
          refine go_aload_n C 0 rfl rfl dX0_passTick_56 ?_
          refine go_gr (ci := 0) (j := 7) C fh_in0 rfl (by decide) rfl q_44 dX0_passTick_57 (fun k16 => ?_)
          refine go_iload_n C 1 rfl rfl dX0_passTick_60 ?_
          refine go_iald C dX0_passTick_61 (fun v17 => ?_)
          refine go_iast C dX0_passTick_62 (fun σ18 => ?_)
          refine go_aload_n C 0 rfl rfl dX0_passTick_63 ?_
          refine go_iload_n C 1 rfl rfl dX0_passTick_64 ?_
          refine go_aload_n C 0 rfl rfl dX0_passTick_65 ?_
          refine go_gr (ci := 0) (j := 7) C fh_in0 rfl (by decide) rfl q_44 dX0_passTick_66 (fun k19 => ?_)
          refine go_iload_n C 1 rfl rfl dX0_passTick_69 ?_
          refine go_iald C dX0_passTick_70 (fun v20 => ?_)
          refine go_callVU C (st := []) [.int x7, .int v20] (m_X0_turn E _ hok k1 x7 v20 σ18) (fun _ h => fh_ob_ok h) rfl rfl ⟨q_276, q_240, q_241, q_2, q_242⟩ pd_X0_turn rfl ⟨⟨Nat.le_of_ble_eq_true rfl, Nat.le_of_ble_eq_true rfl⟩, rfl, rfl⟩ (Nat.le_of_ble_eq_true rfl) dX0_passTick_71 (fun _ σ21 => ?_)
          refine go_iinc C (x7 + 1) 1 [(1, .int (x7 + 1)), (0, .ref (fh_ad E k1))] rfl rfl rfl (by decide) dX0_passTick_74 ?_
          refine go_goto C 43 dX0_passTick_77 rfl ?_
          refine go_lv [1, 0] (lv' := [(0, .ref (fh_ad E k1)), (1, .int (x7 + 1))]) rfl ?_
          exact hr9 (x7 + 1) σ21
    · refine go_aload_n C 0 rfl rfl dX0_passTick_10 ?_
      refine go_gr (ci := 0) (j := 7) C fh_in0 rfl (by decide) rfl q_44 dX0_passTick_11 (fun k22 => ?_)
      refine go_iload_n C 1 rfl rfl dX0_passTick_14 ?_
      refine go_aload_n C 0 rfl rfl dX0_passTick_15 ?_
      refine go_gr (ci := 0) (j := 4) C fh_in0 rfl (by decide) rfl q_39 dX0_passTick_16 (fun k23 => ?_)
      refine go_iload_n C 1 rfl rfl dX0_passTick_19 ?_
      refine go_iald C dX0_passTick_20 (fun v24 => ?_)
      refine go_iconst C (1 : Int32) dX0_passTick_21 rfl ?_
      refine go_jn (fun (j28 : Int32 → fh_S → Option (Unit × fh_S)) => ∀ (x25 : Int32) (σ26 : fh_S), fh_Go E M 2 fh_vU 34 [(0, .ref (fh_ad E k1)), (1, .int x3)] [.int x25, .int x3, .ref (fh_ad E k22)] σ26 (j28 x25 σ26)) ?_ (fun j28 hj28 => ?_)
      · intro x25 σ26
        refine go_iast C dX0_passTick_34 (fun σ27 => ?_)
        refine go_iinc C (x3 + 1) 1 [(1, .int (x3 + 1)), (0, .ref (fh_ad E k1))] rfl rfl rfl (by decide) dX0_passTick_35 ?_
        refine go_goto C 2 dX0_passTick_38 rfl ?_
        refine go_lv [1, 0] (lv' := [(0, .ref (fh_ad E k1)), (1, .int (x3 + 1))]) rfl ?_
        exact hr5 (x3 + 1) σ27
      refine go_icmp_ne (tgt := 29) C dX0_passTick_22 rfl (fun _ => ?_) (fun _ => ?_)
      · refine go_aload_n C 0 rfl rfl dX0_passTick_29 ?_
        refine go_iload_n C 1 rfl rfl dX0_passTick_30 ?_
        refine go_callVI C (st := [.int x3, .ref (fh_ad E k22)]) [.int x3] (m_X0_paceOf E _ hok k1 x3 σ4) (fun _ h => fh_ob_ok h) rfl rfl ⟨q_275, q_201, q_202, q_2, q_203⟩ pd_X0_paceOf rfl ⟨⟨Nat.le_of_ble_eq_true rfl, Nat.le_of_ble_eq_true rfl⟩, rfl, rfl⟩ (Nat.le_of_ble_eq_true rfl) dX0_passTick_31 (fun r30 σ29 => ?_)
        exact hj28 r30 σ29
      · refine go_iconst C (0 : Int32) dX0_passTick_25 rfl ?_
        refine go_goto C 34 dX0_passTick_26 rfl ?_
        exact hj28 ((0 : Int32)) σ4
theorem m_X0_passTick (E : fh_E) (l : Launch) (hok : fh_ok E) (k1 : Nat) (σ2 : fh_S) : fh_Met E l yX0_passTick cX0_passTick 2 (none) rm_X0_passTick fh_vU [.ref (fh_ad E k1)] σ2 (f_X0_passTick k1 σ2) := fh_met hok (by decide +kernel) (Nat.le_of_ble_eq_true rfl) (fun M _ C Hr => g_X0_passTick C Hr k1 σ2)
def f_X0_passTicks_B2 (a2 : Int32) (k1 : Nat) (r6 : Int32 → fh_S → Option (Unit × fh_S)) : Int32 → fh_S → Option (Unit × fh_S) := fun x4 σ5 => if a2 ≤ x4 then some ((), σ5) else fh_cb (f_X0_passTick k1 σ5) fun _ σ7 => r6 (x4 + 1) σ7
def f_X0_passTicks (k1 : Nat) (a2 : Int32) (σ3 : fh_S) : Option (Unit × fh_S) := fh_ob 0 k1 (fh_fx (ρ := Int32 → fh_S → Option (Unit × fh_S)) (fun _ _ => none) (f_X0_passTicks_B2 a2 k1) fh_fu ((0 : Int32)) σ3)
abbrev rm_X0_passTicks : Room := { frames := 4, cells := 0, slots := 0, locals := 89 }
theorem pd_X0_passTicks : yX0_passTicks.cls ≠ "java/lang/invoke/MethodHandle" ∧ yX0_passTicks.cls ≠ "java/lang/invoke/VarHandle" ∧ (parseMethodDescriptor yX0_passTicks.desc).map (fun d => d.parameters.length) = some 1 := by decide +kernel
theorem dX0_passTicks_0 : decode cX0_passTicks 0 = .ok (.iconst 0, 1) := by decide +kernel
theorem dX0_passTicks_1 : decode cX0_passTicks 1 = .ok (.istore_n 2, 1) := by decide +kernel
theorem dX0_passTicks_2 : decode cX0_passTicks 2 = .ok (.iload_n 2, 1) := by decide +kernel
theorem dX0_passTicks_3 : decode cX0_passTicks 3 = .ok (.iload_n 1, 1) := by decide +kernel
theorem dX0_passTicks_4 : decode cX0_passTicks 4 = .ok (.if_icmp .ge 13, 3) := by decide +kernel
theorem dX0_passTicks_7 : decode cX0_passTicks 7 = .ok (.aload_n 0, 1) := by decide +kernel
theorem dX0_passTicks_8 : decode cX0_passTicks 8 = .ok (.invokevirtual 100, 3) := by decide +kernel
theorem dX0_passTicks_11 : decode cX0_passTicks 11 = .ok (.iinc 2 1, 3) := by decide +kernel
theorem dX0_passTicks_14 : decode cX0_passTicks 14 = .ok (.goto (-12), 3) := by decide +kernel
theorem dX0_passTicks_17 : decode cX0_passTicks 17 = .ok (.return_, 1) := by decide +kernel
set_option maxHeartbeats 4000000 in
set_option maxRecDepth 100000 in
theorem g_X0_passTicks {E : fh_E} {M : fh_M} (C : fh_Cx E M cX0_passTicks 3 RX0 (none) rm_X0_passTicks) (Hr : fh_Rt E M) (k1 : Nat) (a2 : Int32) (σ3 : fh_S) : fh_Go E M 3 fh_vU 0 [(0, .ref (fh_ad E k1)), (1, .int a2)] [] σ3 (f_X0_passTicks k1 a2 σ3) := by
  have hok := fh_cok C
  refine go_ob ?_
  refine go_iconst C (0 : Int32) dX0_passTicks_0 rfl ?_
  refine go_istore_n C [(2, .int ((0 : Int32))), (0, .ref (fh_ad E k1)), (1, .int a2)] rfl rfl (by decide) dX0_passTicks_1 ?_
  refine go_lv [1, 2, 0] (lv' := [(0, .ref (fh_ad E k1)), (1, .int a2), (2, .int ((0 : Int32)))]) rfl ?_
  refine go_fx (fun (r6 : Int32 → fh_S → Option (Unit × fh_S)) => ∀ (x4 : Int32) (σ5 : fh_S), fh_Go E M 3 fh_vU 2 [(0, .ref (fh_ad E k1)), (1, .int a2), (2, .int x4)] [] σ5 (r6 x4 σ5)) ?_ ?_ fh_fu ((0 : Int32)) σ3
  · intro x4 σ5
    exact go_none
  · intro r6 hr6 x4 σ5
    refine go_iload_n C 2 rfl rfl dX0_passTicks_2 ?_
    refine go_iload_n C 1 rfl rfl dX0_passTicks_3 ?_
    refine go_icmp_ge (tgt := 17) C dX0_passTicks_4 rfl (fun _ => ?_) (fun _ => ?_)
    · exact go_vret C Hr rfl dX0_passTicks_17
    · refine go_aload_n C 0 rfl rfl dX0_passTicks_7 ?_
      refine go_callVU C (st := []) [] (m_X0_passTick E _ hok k1 σ5) (fun _ h => fh_ob_ok h) rfl rfl ⟨q_271, q_272, q_273, q_2, q_274⟩ pd_X0_passTick rfl ⟨⟨Nat.le_of_ble_eq_true rfl, Nat.le_of_ble_eq_true rfl⟩, rfl, rfl⟩ (Nat.le_of_ble_eq_true rfl) dX0_passTicks_8 (fun _ σ7 => ?_)
      refine go_iinc C (x4 + 1) 2 [(2, .int (x4 + 1)), (0, .ref (fh_ad E k1)), (1, .int a2)] rfl rfl rfl (by decide) dX0_passTicks_11 ?_
      refine go_goto C 2 dX0_passTicks_14 rfl ?_
      refine go_lv [1, 2, 0] (lv' := [(0, .ref (fh_ad E k1)), (1, .int a2), (2, .int (x4 + 1))]) rfl ?_
      exact hr6 (x4 + 1) σ7
theorem m_X0_passTicks (E : fh_E) (l : Launch) (hok : fh_ok E) (k1 : Nat) (a2 : Int32) (σ3 : fh_S) : fh_Met E l yX0_passTicks cX0_passTicks 3 (none) rm_X0_passTicks fh_vU [.ref (fh_ad E k1), .int a2] σ3 (f_X0_passTicks k1 a2 σ3) := fh_met hok (by decide +kernel) (Nat.le_of_ble_eq_true rfl) (fun M _ C Hr => g_X0_passTicks C Hr k1 a2 σ3)
def f_X0_goesAsMarked_B2 (k1 : Nat) (r5 : Int32 → fh_S → Option (Int32 × fh_S)) : Int32 → fh_S → Option (Int32 × fh_S) := fun x3 σ4 => (fh_gi σ4 0 k1 9).bind fun v6 => if v6 ≤ x3 then fh_rz ((1 : Int32)) σ4 else (fh_gr 0 k1 3).bind fun k7 => (fh_ld σ4 k7 x3).bind fun v8 => (fh_gr 0 k1 8).bind fun k9 => (fh_ld σ4 k9 x3).bind fun v10 => if v8 = v10 then r5 (x3 + 1) σ4 else fh_rz ((0 : Int32)) σ4
def f_X0_goesAsMarked (k1 : Nat) (σ2 : fh_S) : Option (Int32 × fh_S) := fh_ob 0 k1 (fh_fx (ρ := Int32 → fh_S → Option (Int32 × fh_S)) (fun _ _ => none) (f_X0_goesAsMarked_B2 k1) fh_fu ((0 : Int32)) σ2)
abbrev rm_X0_goesAsMarked : Room := { frames := 0, cells := 0, slots := 0, locals := 0 }
theorem pd_X0_goesAsMarked : yX0_goesAsMarked.cls ≠ "java/lang/invoke/MethodHandle" ∧ yX0_goesAsMarked.cls ≠ "java/lang/invoke/VarHandle" ∧ (parseMethodDescriptor yX0_goesAsMarked.desc).map (fun d => d.parameters.length) = some 0 := by decide +kernel
theorem dX0_goesAsMarked_0 : decode cX0_goesAsMarked 0 = .ok (.iconst 0, 1) := by decide +kernel
theorem dX0_goesAsMarked_1 : decode cX0_goesAsMarked 1 = .ok (.istore_n 1, 1) := by decide +kernel
theorem dX0_goesAsMarked_2 : decode cX0_goesAsMarked 2 = .ok (.iload_n 1, 1) := by decide +kernel
theorem dX0_goesAsMarked_3 : decode cX0_goesAsMarked 3 = .ok (.aload_n 0, 1) := by decide +kernel
theorem dX0_goesAsMarked_4 : decode cX0_goesAsMarked 4 = .ok (.getfield 39, 3) := by decide +kernel
theorem dX0_goesAsMarked_7 : decode cX0_goesAsMarked 7 = .ok (.if_icmp .ge 26, 3) := by decide +kernel
theorem dX0_goesAsMarked_10 : decode cX0_goesAsMarked 10 = .ok (.aload_n 0, 1) := by decide +kernel
theorem dX0_goesAsMarked_11 : decode cX0_goesAsMarked 11 = .ok (.getfield 21, 3) := by decide +kernel
theorem dX0_goesAsMarked_14 : decode cX0_goesAsMarked 14 = .ok (.iload_n 1, 1) := by decide +kernel
theorem dX0_goesAsMarked_15 : decode cX0_goesAsMarked 15 = .ok (.iaload, 1) := by decide +kernel
theorem dX0_goesAsMarked_16 : decode cX0_goesAsMarked 16 = .ok (.aload_n 0, 1) := by decide +kernel
theorem dX0_goesAsMarked_17 : decode cX0_goesAsMarked 17 = .ok (.getfield 36, 3) := by decide +kernel
theorem dX0_goesAsMarked_20 : decode cX0_goesAsMarked 20 = .ok (.iload_n 1, 1) := by decide +kernel
theorem dX0_goesAsMarked_21 : decode cX0_goesAsMarked 21 = .ok (.iaload, 1) := by decide +kernel
theorem dX0_goesAsMarked_22 : decode cX0_goesAsMarked 22 = .ok (.if_icmp .eq 5, 3) := by decide +kernel
theorem dX0_goesAsMarked_25 : decode cX0_goesAsMarked 25 = .ok (.iconst 0, 1) := by decide +kernel
theorem dX0_goesAsMarked_26 : decode cX0_goesAsMarked 26 = .ok (.ireturn, 1) := by decide +kernel
theorem dX0_goesAsMarked_27 : decode cX0_goesAsMarked 27 = .ok (.iinc 1 1, 3) := by decide +kernel
theorem dX0_goesAsMarked_30 : decode cX0_goesAsMarked 30 = .ok (.goto (-28), 3) := by decide +kernel
theorem dX0_goesAsMarked_33 : decode cX0_goesAsMarked 33 = .ok (.iconst 1, 1) := by decide +kernel
theorem dX0_goesAsMarked_34 : decode cX0_goesAsMarked 34 = .ok (.ireturn, 1) := by decide +kernel
set_option maxHeartbeats 4000000 in
set_option maxRecDepth 100000 in
theorem g_X0_goesAsMarked {E : fh_E} {M : fh_M} (C : fh_Cx E M cX0_goesAsMarked 2 RX0 ((some FieldType.boolean)) rm_X0_goesAsMarked) (Hr : fh_Rt E M) (k1 : Nat) (σ2 : fh_S) : fh_Go E M 2 fh_vI 0 [(0, .ref (fh_ad E k1))] [] σ2 (f_X0_goesAsMarked k1 σ2) := by
  have hok := fh_cok C
  refine go_ob ?_
  refine go_iconst C (0 : Int32) dX0_goesAsMarked_0 rfl ?_
  refine go_istore_n C [(1, .int ((0 : Int32))), (0, .ref (fh_ad E k1))] rfl rfl (by decide) dX0_goesAsMarked_1 ?_
  refine go_lv [1, 0] (lv' := [(0, .ref (fh_ad E k1)), (1, .int ((0 : Int32)))]) rfl ?_
  refine go_fx (fun (r5 : Int32 → fh_S → Option (Int32 × fh_S)) => ∀ (x3 : Int32) (σ4 : fh_S), fh_Go E M 2 fh_vI 2 [(0, .ref (fh_ad E k1)), (1, .int x3)] [] σ4 (r5 x3 σ4)) ?_ ?_ fh_fu ((0 : Int32)) σ2
  · intro x3 σ4
    exact go_none
  · intro r5 hr5 x3 σ4
    refine go_iload_n C 1 rfl rfl dX0_goesAsMarked_2 ?_
    refine go_aload_n C 0 rfl rfl dX0_goesAsMarked_3 ?_
    refine go_gi (ci := 0) (j := 9) C fh_in0 rfl (by decide) rfl q_46 dX0_goesAsMarked_4 (fun v6 => ?_)
    refine go_icmp_ge (tgt := 33) C dX0_goesAsMarked_7 rfl (fun _ => ?_) (fun _ => ?_)
    · refine go_iconst C (1 : Int32) dX0_goesAsMarked_33 rfl ?_
      exact go_zret C Hr dX0_goesAsMarked_34
    · refine go_aload_n C 0 rfl rfl dX0_goesAsMarked_10 ?_
      refine go_gr (ci := 0) (j := 3) C fh_in0 rfl (by decide) rfl q_36 dX0_goesAsMarked_11 (fun k7 => ?_)
      refine go_iload_n C 1 rfl rfl dX0_goesAsMarked_14 ?_
      refine go_iald C dX0_goesAsMarked_15 (fun v8 => ?_)
      refine go_aload_n C 0 rfl rfl dX0_goesAsMarked_16 ?_
      refine go_gr (ci := 0) (j := 8) C fh_in0 rfl (by decide) rfl q_45 dX0_goesAsMarked_17 (fun k9 => ?_)
      refine go_iload_n C 1 rfl rfl dX0_goesAsMarked_20 ?_
      refine go_iald C dX0_goesAsMarked_21 (fun v10 => ?_)
      refine go_icmp_eq (tgt := 27) C dX0_goesAsMarked_22 rfl (fun _ => ?_) (fun _ => ?_)
      · refine go_iinc C (x3 + 1) 1 [(1, .int (x3 + 1)), (0, .ref (fh_ad E k1))] rfl rfl rfl (by decide) dX0_goesAsMarked_27 ?_
        refine go_goto C 2 dX0_goesAsMarked_30 rfl ?_
        refine go_lv [1, 0] (lv' := [(0, .ref (fh_ad E k1)), (1, .int (x3 + 1))]) rfl ?_
        exact hr5 (x3 + 1) σ4
      · refine go_iconst C (0 : Int32) dX0_goesAsMarked_25 rfl ?_
        exact go_zret C Hr dX0_goesAsMarked_26
theorem m_X0_goesAsMarked (E : fh_E) (l : Launch) (hok : fh_ok E) (k1 : Nat) (σ2 : fh_S) : fh_Met E l yX0_goesAsMarked cX0_goesAsMarked 2 ((some FieldType.boolean)) rm_X0_goesAsMarked fh_vI [.ref (fh_ad E k1)] σ2 (f_X0_goesAsMarked k1 σ2) := fh_met hok (by decide +kernel) (Nat.le_of_ble_eq_true rfl) (fun M _ C Hr => g_X0_goesAsMarked C Hr k1 σ2)
def f_X0_markGoings (k1 : Nat) (σ2 : fh_S) : Option (Unit × fh_S) := fh_ob 0 k1 ((fh_gr 0 k1 3).bind fun k3 => (fh_gr 0 k1 8).bind fun k4 => (fh_cp σ2 k3 ((0 : Int32)) k4 ((0 : Int32)) ((10 : Int32))).bind fun σ5 => some ((), σ5))
abbrev rm_X0_markGoings : Room := { frames := 1, cells := 0, slots := 0, locals := 60 }
theorem pd_X0_markGoings : yX0_markGoings.cls ≠ "java/lang/invoke/MethodHandle" ∧ yX0_markGoings.cls ≠ "java/lang/invoke/VarHandle" ∧ (parseMethodDescriptor yX0_markGoings.desc).map (fun d => d.parameters.length) = some 0 := by decide +kernel
theorem dX0_markGoings_0 : decode cX0_markGoings 0 = .ok (.aload_n 0, 1) := by decide +kernel
theorem dX0_markGoings_1 : decode cX0_markGoings 1 = .ok (.getfield 21, 3) := by decide +kernel
theorem dX0_markGoings_4 : decode cX0_markGoings 4 = .ok (.iconst 0, 1) := by decide +kernel
theorem dX0_markGoings_5 : decode cX0_markGoings 5 = .ok (.aload_n 0, 1) := by decide +kernel
theorem dX0_markGoings_6 : decode cX0_markGoings 6 = .ok (.getfield 36, 3) := by decide +kernel
theorem dX0_markGoings_9 : decode cX0_markGoings 9 = .ok (.iconst 0, 1) := by decide +kernel
theorem dX0_markGoings_10 : decode cX0_markGoings 10 = .ok (.bipush 10, 2) := by decide +kernel
theorem dX0_markGoings_12 : decode cX0_markGoings 12 = .ok (.invokestatic 49, 3) := by decide +kernel
theorem dX0_markGoings_15 : decode cX0_markGoings 15 = .ok (.return_, 1) := by decide +kernel
set_option maxHeartbeats 4000000 in
set_option maxRecDepth 100000 in
theorem g_X0_markGoings {E : fh_E} {M : fh_M} (C : fh_Cx E M cX0_markGoings 1 RX0 (none) rm_X0_markGoings) (Hr : fh_Rt E M) (k1 : Nat) (σ2 : fh_S) : fh_Go E M 1 fh_vU 0 [(0, .ref (fh_ad E k1))] [] σ2 (f_X0_markGoings k1 σ2) := by
  have hok := fh_cok C
  refine go_ob ?_
  refine go_aload_n C 0 rfl rfl dX0_markGoings_0 ?_
  refine go_gr (ci := 0) (j := 3) C fh_in0 rfl (by decide) rfl q_36 dX0_markGoings_1 (fun k3 => ?_)
  refine go_iconst C (0 : Int32) dX0_markGoings_4 rfl ?_
  refine go_aload_n C 0 rfl rfl dX0_markGoings_5 ?_
  refine go_gr (ci := 0) (j := 8) C fh_in0 rfl (by decide) rfl q_45 dX0_markGoings_6 (fun k4 => ?_)
  refine go_iconst C (0 : Int32) dX0_markGoings_9 rfl ?_
  refine go_bipush C (10 : Int32) dX0_markGoings_10 rfl ?_
  refine go_cp C ⟨q_382, q_384, q_383, q_9⟩ ⟨Nat.le_of_ble_eq_true rfl, Nat.le_of_ble_eq_true rfl⟩ dX0_markGoings_12 (fun σ5 => ?_)
  exact go_vret C Hr rfl dX0_markGoings_15
theorem m_X0_markGoings (E : fh_E) (l : Launch) (hok : fh_ok E) (k1 : Nat) (σ2 : fh_S) : fh_Met E l yX0_markGoings cX0_markGoings 1 (none) rm_X0_markGoings fh_vU [.ref (fh_ad E k1)] σ2 (f_X0_markGoings k1 σ2) := fh_met hok (by decide +kernel) (Nat.le_of_ble_eq_true rfl) (fun M _ C Hr => g_X0_markGoings C Hr k1 σ2)
def f_X0_passTicksForGoings_J55 (a2 : Int32) (k1 : Nat) : fh_S → Option (Unit × fh_S) := fun σ8 => if (a2 - a2 / ((2 : Int32)) * ((2 : Int32))) = ((1 : Int32)) then fh_cb (f_X0_passTick k1 σ8) fun _ σ9 => some ((), σ9) else some ((), σ8)
def f_X0_passTicksForGoings_J48 (r7 : Int32 → Int32 → fh_S → Option (Unit × fh_S)) (x5 : Int32) : Int32 → fh_S → Option (Unit × fh_S) := fun x15 σ16 => r7 x15 (x5 + (-2)) σ16
def f_X0_passTicksForGoings_J43 (j17 : Int32 → fh_S → Option (Unit × fh_S)) : fh_S → Option (Unit × fh_S) := fun σ18 => j17 ((1 : Int32)) σ18
def f_X0_passTicksForGoings_B4 (a2 : Int32) (k1 : Nat) (r7 : Int32 → Int32 → fh_S → Option (Unit × fh_S)) : Int32 → Int32 → fh_S → Option (Unit × fh_S) := fun x4 x5 σ6 => fh_jn (f_X0_passTicksForGoings_J55 a2 k1) (fun j10 => if x5 < ((2 : Int32)) then j10 σ6 else if x4 = 0 then j10 σ6 else fh_cb (f_X0_markGoings k1 σ6) fun _ σ11 => fh_cb (f_X0_passTick k1 σ11) fun _ σ12 => fh_cb (f_X0_passTick k1 σ12) fun _ σ13 => (fh_gi σ13 0 k1 10).bind fun v14 => fh_jn (f_X0_passTicksForGoings_J48 r7 x5) (fun j17 => fh_jn (f_X0_passTicksForGoings_J43 j17) (fun j19 => if (((99999 : Int32)) - x5) < v14 then j19 σ13 else fh_cb (f_X0_goesAsMarked k1 σ13) fun r21 σ20 => if r21 = 0 then j19 σ20 else j17 ((0 : Int32)) σ20)))
def f_X0_passTicksForGoings (k1 : Nat) (a2 : Int32) (σ3 : fh_S) : Option (Unit × fh_S) := fh_ob 0 k1 (fh_fx (ρ := Int32 → Int32 → fh_S → Option (Unit × fh_S)) (fun _ _ _ => none) (f_X0_passTicksForGoings_B4 a2 k1) fh_fu ((1 : Int32)) a2 σ3)
abbrev rm_X0_passTicksForGoings : Room := { frames := 4, cells := 0, slots := 0, locals := 89 }
theorem pd_X0_passTicksForGoings : yX0_passTicksForGoings.cls ≠ "java/lang/invoke/MethodHandle" ∧ yX0_passTicksForGoings.cls ≠ "java/lang/invoke/VarHandle" ∧ (parseMethodDescriptor yX0_passTicksForGoings.desc).map (fun d => d.parameters.length) = some 1 := by decide +kernel
theorem dX0_passTicksForGoings_0 : decode cX0_passTicksForGoings 0 = .ok (.iconst 1, 1) := by decide +kernel
theorem dX0_passTicksForGoings_1 : decode cX0_passTicksForGoings 1 = .ok (.istore_n 2, 1) := by decide +kernel
theorem dX0_passTicksForGoings_2 : decode cX0_passTicksForGoings 2 = .ok (.iload_n 1, 1) := by decide +kernel
theorem dX0_passTicksForGoings_3 : decode cX0_passTicksForGoings 3 = .ok (.istore_n 3, 1) := by decide +kernel
theorem dX0_passTicksForGoings_4 : decode cX0_passTicksForGoings 4 = .ok (.iload_n 3, 1) := by decide +kernel
theorem dX0_passTicksForGoings_5 : decode cX0_passTicksForGoings 5 = .ok (.iconst 2, 1) := by decide +kernel
theorem dX0_passTicksForGoings_6 : decode cX0_passTicksForGoings 6 = .ok (.if_icmp .lt 49, 3) := by decide +kernel
theorem dX0_passTicksForGoings_9 : decode cX0_passTicksForGoings 9 = .ok (.iload_n 2, 1) := by decide +kernel
theorem dX0_passTicksForGoings_10 : decode cX0_passTicksForGoings 10 = .ok (.ifCond .eq 45, 3) := by decide +kernel
theorem dX0_passTicksForGoings_13 : decode cX0_passTicksForGoings 13 = .ok (.aload_n 0, 1) := by decide +kernel
theorem dX0_passTicksForGoings_14 : decode cX0_passTicksForGoings 14 = .ok (.invokevirtual 103, 3) := by decide +kernel
theorem dX0_passTicksForGoings_17 : decode cX0_passTicksForGoings 17 = .ok (.aload_n 0, 1) := by decide +kernel
theorem dX0_passTicksForGoings_18 : decode cX0_passTicksForGoings 18 = .ok (.invokevirtual 100, 3) := by decide +kernel
theorem dX0_passTicksForGoings_21 : decode cX0_passTicksForGoings 21 = .ok (.aload_n 0, 1) := by decide +kernel
theorem dX0_passTicksForGoings_22 : decode cX0_passTicksForGoings 22 = .ok (.invokevirtual 100, 3) := by decide +kernel
theorem dX0_passTicksForGoings_25 : decode cX0_passTicksForGoings 25 = .ok (.aload_n 0, 1) := by decide +kernel
theorem dX0_passTicksForGoings_26 : decode cX0_passTicksForGoings 26 = .ok (.getfield 43, 3) := by decide +kernel
theorem dX0_passTicksForGoings_29 : decode cX0_passTicksForGoings 29 = .ok (.ldc 99, 2) := by decide +kernel
theorem dX0_passTicksForGoings_31 : decode cX0_passTicksForGoings 31 = .ok (.iload_n 3, 1) := by decide +kernel
theorem dX0_passTicksForGoings_32 : decode cX0_passTicksForGoings 32 = .ok (.isub, 1) := by decide +kernel
theorem dX0_passTicksForGoings_33 : decode cX0_passTicksForGoings 33 = .ok (.if_icmp .gt 10, 3) := by decide +kernel
theorem dX0_passTicksForGoings_36 : decode cX0_passTicksForGoings 36 = .ok (.aload_n 0, 1) := by decide +kernel
theorem dX0_passTicksForGoings_37 : decode cX0_passTicksForGoings 37 = .ok (.invokevirtual 106, 3) := by decide +kernel
theorem dX0_passTicksForGoings_40 : decode cX0_passTicksForGoings 40 = .ok (.ifCond .ne 7, 3) := by decide +kernel
theorem dX0_passTicksForGoings_43 : decode cX0_passTicksForGoings 43 = .ok (.iconst 1, 1) := by decide +kernel
theorem dX0_passTicksForGoings_44 : decode cX0_passTicksForGoings 44 = .ok (.goto 4, 3) := by decide +kernel
theorem dX0_passTicksForGoings_47 : decode cX0_passTicksForGoings 47 = .ok (.iconst 0, 1) := by decide +kernel
theorem dX0_passTicksForGoings_48 : decode cX0_passTicksForGoings 48 = .ok (.istore_n 2, 1) := by decide +kernel
theorem dX0_passTicksForGoings_49 : decode cX0_passTicksForGoings 49 = .ok (.iinc 3 (-2), 3) := by decide +kernel
theorem dX0_passTicksForGoings_52 : decode cX0_passTicksForGoings 52 = .ok (.goto (-48), 3) := by decide +kernel
theorem dX0_passTicksForGoings_55 : decode cX0_passTicksForGoings 55 = .ok (.iload_n 1, 1) := by decide +kernel
theorem dX0_passTicksForGoings_56 : decode cX0_passTicksForGoings 56 = .ok (.iconst 2, 1) := by decide +kernel
theorem dX0_passTicksForGoings_57 : decode cX0_passTicksForGoings 57 = .ok (.irem, 1) := by decide +kernel
theorem dX0_passTicksForGoings_58 : decode cX0_passTicksForGoings 58 = .ok (.iconst 1, 1) := by decide +kernel
theorem dX0_passTicksForGoings_59 : decode cX0_passTicksForGoings 59 = .ok (.if_icmp .ne 7, 3) := by decide +kernel
theorem dX0_passTicksForGoings_62 : decode cX0_passTicksForGoings 62 = .ok (.aload_n 0, 1) := by decide +kernel
theorem dX0_passTicksForGoings_63 : decode cX0_passTicksForGoings 63 = .ok (.invokevirtual 100, 3) := by decide +kernel
theorem dX0_passTicksForGoings_66 : decode cX0_passTicksForGoings 66 = .ok (.return_, 1) := by decide +kernel
set_option maxHeartbeats 4000000 in
set_option maxRecDepth 100000 in
theorem g_X0_passTicksForGoings {E : fh_E} {M : fh_M} (C : fh_Cx E M cX0_passTicksForGoings 4 RX0 (none) rm_X0_passTicksForGoings) (Hr : fh_Rt E M) (k1 : Nat) (a2 : Int32) (σ3 : fh_S) : fh_Go E M 4 fh_vU 0 [(0, .ref (fh_ad E k1)), (1, .int a2)] [] σ3 (f_X0_passTicksForGoings k1 a2 σ3) := by
  have hok := fh_cok C
  refine go_ob ?_
  refine go_iconst C (1 : Int32) dX0_passTicksForGoings_0 rfl ?_
  refine go_istore_n C [(2, .int ((1 : Int32))), (0, .ref (fh_ad E k1)), (1, .int a2)] rfl rfl (by decide) dX0_passTicksForGoings_1 ?_
  refine go_iload_n C 2 rfl rfl dX0_passTicksForGoings_2 ?_
  refine go_istore_n C [(3, .int a2), (2, .int ((1 : Int32))), (0, .ref (fh_ad E k1)), (1, .int a2)] rfl rfl (by decide) dX0_passTicksForGoings_3 ?_
  refine go_lv [2, 3, 1, 0] (lv' := [(0, .ref (fh_ad E k1)), (1, .int a2), (2, .int ((1 : Int32))), (3, .int a2)]) rfl ?_
  refine go_fx (fun (r7 : Int32 → Int32 → fh_S → Option (Unit × fh_S)) => ∀ (x4 : Int32) (x5 : Int32) (σ6 : fh_S), fh_Go E M 4 fh_vU 4 [(0, .ref (fh_ad E k1)), (1, .int a2), (2, .int x4), (3, .int x5)] [] σ6 (r7 x4 x5 σ6)) ?_ ?_ fh_fu ((1 : Int32)) a2 σ3
  · intro x4 x5 σ6
    exact go_none
  · intro r7 hr7 x4 x5 σ6
    refine go_iload_n C 3 rfl rfl dX0_passTicksForGoings_4 ?_
    refine go_iconst C (2 : Int32) dX0_passTicksForGoings_5 rfl ?_
    refine go_jn (fun (j10 : fh_S → Option (Unit × fh_S)) => ∀ (σ8 : fh_S), fh_Go E M 4 fh_vU 55 [(0, .ref (fh_ad E k1)), (1, .int a2)] [] σ8 (j10 σ8)) ?_ (fun j10 hj10 => ?_)
    · intro σ8
      refine go_iload_n C 1 rfl rfl dX0_passTicksForGoings_55 ?_
      refine go_iconst C (2 : Int32) dX0_passTicksForGoings_56 rfl ?_
      refine go_irem C dX0_passTicksForGoings_57 (by decide) ?_
      refine go_iconst C (1 : Int32) dX0_passTicksForGoings_58 rfl ?_
      refine go_icmp_ne (tgt := 66) C dX0_passTicksForGoings_59 rfl (fun _ => ?_) (fun _ => ?_)
      · exact go_vret C Hr rfl dX0_passTicksForGoings_66
      · refine go_aload_n C 0 rfl rfl dX0_passTicksForGoings_62 ?_
        refine go_callVU C (st := []) [] (m_X0_passTick E _ hok k1 σ8) (fun _ h => fh_ob_ok h) rfl rfl ⟨q_271, q_272, q_273, q_2, q_274⟩ pd_X0_passTick rfl ⟨⟨Nat.le_of_ble_eq_true rfl, Nat.le_of_ble_eq_true rfl⟩, rfl, rfl⟩ (Nat.le_of_ble_eq_true rfl) dX0_passTicksForGoings_63 (fun _ σ9 => ?_)
        exact go_vret C Hr rfl dX0_passTicksForGoings_66
    refine go_icmp_lt (tgt := 55) C dX0_passTicksForGoings_6 rfl (fun _ => ?_) (fun _ => ?_)
    · refine go_lv [0, 1] (lv' := [(0, .ref (fh_ad E k1)), (1, .int a2)]) rfl ?_
      exact hj10 σ6
    · refine go_iload_n C 2 rfl rfl dX0_passTicksForGoings_9 ?_
      refine go_if_eq (tgt := 55) C dX0_passTicksForGoings_10 rfl (fun _ => ?_) (fun _ => ?_)
      · refine go_lv [0, 1] (lv' := [(0, .ref (fh_ad E k1)), (1, .int a2)]) rfl ?_
        exact hj10 σ6
      · refine go_aload_n C 0 rfl rfl dX0_passTicksForGoings_13 ?_
        refine go_callVU C (st := []) [] (m_X0_markGoings E _ hok k1 σ6) (fun _ h => fh_ob_ok h) rfl rfl ⟨q_487, q_408, q_409, q_2, q_410⟩ pd_X0_markGoings rfl ⟨⟨Nat.le_of_ble_eq_true rfl, Nat.le_of_ble_eq_true rfl⟩, rfl, rfl⟩ (Nat.le_of_ble_eq_true rfl) dX0_passTicksForGoings_14 (fun _ σ11 => ?_)
        refine go_aload_n C 0 rfl rfl dX0_passTicksForGoings_17 ?_
        refine go_callVU C (st := []) [] (m_X0_passTick E _ hok k1 σ11) (fun _ h => fh_ob_ok h) rfl rfl ⟨q_271, q_272, q_273, q_2, q_274⟩ pd_X0_passTick rfl ⟨⟨Nat.le_of_ble_eq_true rfl, Nat.le_of_ble_eq_true rfl⟩, rfl, rfl⟩ (Nat.le_of_ble_eq_true rfl) dX0_passTicksForGoings_18 (fun _ σ12 => ?_)
        refine go_aload_n C 0 rfl rfl dX0_passTicksForGoings_21 ?_
        refine go_callVU C (st := []) [] (m_X0_passTick E _ hok k1 σ12) (fun _ h => fh_ob_ok h) rfl rfl ⟨q_271, q_272, q_273, q_2, q_274⟩ pd_X0_passTick rfl ⟨⟨Nat.le_of_ble_eq_true rfl, Nat.le_of_ble_eq_true rfl⟩, rfl, rfl⟩ (Nat.le_of_ble_eq_true rfl) dX0_passTicksForGoings_22 (fun _ σ13 => ?_)
        refine go_aload_n C 0 rfl rfl dX0_passTicksForGoings_25 ?_
        refine go_gi (ci := 0) (j := 10) C fh_in0 rfl (by decide) rfl q_49 dX0_passTicksForGoings_26 (fun v14 => ?_)
        refine go_ldc C q_277 dX0_passTicksForGoings_29 ?_
        refine go_iload_n C 3 rfl rfl dX0_passTicksForGoings_31 ?_
        refine go_isub C dX0_passTicksForGoings_32 ?_
        refine go_jn (fun (j17 : Int32 → fh_S → Option (Unit × fh_S)) => ∀ (x15 : Int32) (σ16 : fh_S), fh_Go E M 4 fh_vU 48 [(0, .ref (fh_ad E k1)), (1, .int a2), (3, .int x5)] [.int x15] σ16 (j17 x15 σ16)) ?_ (fun j17 hj17 => ?_)
        · intro x15 σ16
          refine go_istore_n C [(2, .int x15), (0, .ref (fh_ad E k1)), (1, .int a2), (3, .int x5)] rfl rfl (by decide) dX0_passTicksForGoings_48 ?_
          refine go_iinc C (x5 + (-2)) 3 [(3, .int (x5 + (-2))), (2, .int x15), (0, .ref (fh_ad E k1)), (1, .int a2)] rfl (congrArg (fun z => x5 + z) (by decide : Int32.ofInt (-2) = (-2 : Int32))) rfl (by decide) dX0_passTicksForGoings_49 ?_
          refine go_goto C 4 dX0_passTicksForGoings_52 rfl ?_
          refine go_lv [2, 3, 1, 0] (lv' := [(0, .ref (fh_ad E k1)), (1, .int a2), (2, .int x15), (3, .int (x5 + (-2)))]) rfl ?_
          exact hr7 x15 (x5 + (-2)) σ16
        refine go_jn (fun (j19 : fh_S → Option (Unit × fh_S)) => ∀ (σ18 : fh_S), fh_Go E M 4 fh_vU 43 [(0, .ref (fh_ad E k1)), (1, .int a2), (3, .int x5)] [] σ18 (j19 σ18)) ?_ (fun j19 hj19 => ?_)
        · intro σ18
          refine go_iconst C (1 : Int32) dX0_passTicksForGoings_43 rfl ?_
          refine go_goto C 48 dX0_passTicksForGoings_44 rfl ?_
          exact hj17 ((1 : Int32)) σ18
        refine go_icmp_gt (tgt := 43) C dX0_passTicksForGoings_33 rfl (fun _ => ?_) (fun _ => ?_)
        · refine go_lv [0, 1, 3] (lv' := [(0, .ref (fh_ad E k1)), (1, .int a2), (3, .int x5)]) rfl ?_
          exact hj19 σ13
        · refine go_aload_n C 0 rfl rfl dX0_passTicksForGoings_36 ?_
          refine go_callVI C (st := []) [] (m_X0_goesAsMarked E _ hok k1 σ13) (fun _ h => fh_ob_ok h) rfl rfl ⟨q_488, q_412, q_413, q_2, q_414⟩ pd_X0_goesAsMarked rfl ⟨⟨Nat.le_of_ble_eq_true rfl, Nat.le_of_ble_eq_true rfl⟩, rfl, rfl⟩ (Nat.le_of_ble_eq_true rfl) dX0_passTicksForGoings_37 (fun r21 σ20 => ?_)
          refine go_if_ne (tgt := 47) C dX0_passTicksForGoings_40 rfl (fun _ => ?_) (fun _ => ?_)
          · refine go_iconst C (0 : Int32) dX0_passTicksForGoings_47 rfl ?_
            refine go_lv [0, 1, 3] (lv' := [(0, .ref (fh_ad E k1)), (1, .int a2), (3, .int x5)]) rfl ?_
            exact hj17 ((0 : Int32)) σ20
          · refine go_lv [0, 1, 3] (lv' := [(0, .ref (fh_ad E k1)), (1, .int a2), (3, .int x5)]) rfl ?_
            exact hj19 σ20
theorem m_X0_passTicksForGoings (E : fh_E) (l : Launch) (hok : fh_ok E) (k1 : Nat) (a2 : Int32) (σ3 : fh_S) : fh_Met E l yX0_passTicksForGoings cX0_passTicksForGoings 4 (none) rm_X0_passTicksForGoings fh_vU [.ref (fh_ad E k1), .int a2] σ3 (f_X0_passTicksForGoings k1 a2 σ3) := fh_met hok (by decide +kernel) (Nat.le_of_ble_eq_true rfl) (fun M _ C Hr => g_X0_passTicksForGoings C Hr k1 a2 σ3)
def f_X0_setWhere_J29 (r8 : Int32 → Int32 → fh_S → Option (Int32 × fh_S)) (x6 : Int32) : Int32 → fh_S → Option (Int32 × fh_S) := fun x11 σ12 => r8 x11 (x6 + 1) σ12
def f_X0_setWhere_B5 (k1 : Nat) (k2 : Nat) (a3 : Int32) (r8 : Int32 → Int32 → fh_S → Option (Int32 × fh_S)) : Int32 → Int32 → fh_S → Option (Int32 × fh_S) := fun x5 x6 σ7 => (fh_gi σ7 0 k1 9).bind fun v9 => if v9 ≤ x6 then some (x5, σ7) else (fh_ld σ7 k2 x6).bind fun v10 => fh_jn (f_X0_setWhere_J29 r8 x6) (fun j13 => if v10 = a3 then j13 (x5 ||| (((1 : Int32)) <<< (x6 &&& 31))) σ7 else j13 x5 σ7)
def f_X0_setWhere (k1 : Nat) (k2 : Nat) (a3 : Int32) (σ4 : fh_S) : Option (Int32 × fh_S) := fh_ob 0 k1 (fh_fx (ρ := Int32 → Int32 → fh_S → Option (Int32 × fh_S)) (fun _ _ _ => none) (f_X0_setWhere_B5 k1 k2 a3) fh_fu ((0 : Int32)) ((0 : Int32)) σ4)
abbrev rm_X0_setWhere : Room := { frames := 0, cells := 0, slots := 0, locals := 0 }
theorem pd_X0_setWhere : yX0_setWhere.cls ≠ "java/lang/invoke/MethodHandle" ∧ yX0_setWhere.cls ≠ "java/lang/invoke/VarHandle" ∧ (parseMethodDescriptor yX0_setWhere.desc).map (fun d => d.parameters.length) = some 2 := by decide +kernel
theorem dX0_setWhere_0 : decode cX0_setWhere 0 = .ok (.iconst 0, 1) := by decide +kernel
theorem dX0_setWhere_1 : decode cX0_setWhere 1 = .ok (.istore_n 3, 1) := by decide +kernel
theorem dX0_setWhere_2 : decode cX0_setWhere 2 = .ok (.iconst 0, 1) := by decide +kernel
theorem dX0_setWhere_3 : decode cX0_setWhere 3 = .ok (.istore 4, 2) := by decide +kernel
theorem dX0_setWhere_5 : decode cX0_setWhere 5 = .ok (.iload 4, 2) := by decide +kernel
theorem dX0_setWhere_7 : decode cX0_setWhere 7 = .ok (.aload_n 0, 1) := by decide +kernel
theorem dX0_setWhere_8 : decode cX0_setWhere 8 = .ok (.getfield 39, 3) := by decide +kernel
theorem dX0_setWhere_11 : decode cX0_setWhere 11 = .ok (.if_icmp .ge 24, 3) := by decide +kernel
theorem dX0_setWhere_14 : decode cX0_setWhere 14 = .ok (.aload_n 1, 1) := by decide +kernel
theorem dX0_setWhere_15 : decode cX0_setWhere 15 = .ok (.iload 4, 2) := by decide +kernel
theorem dX0_setWhere_17 : decode cX0_setWhere 17 = .ok (.iaload, 1) := by decide +kernel
theorem dX0_setWhere_18 : decode cX0_setWhere 18 = .ok (.iload_n 2, 1) := by decide +kernel
theorem dX0_setWhere_19 : decode cX0_setWhere 19 = .ok (.if_icmp .ne 10, 3) := by decide +kernel
theorem dX0_setWhere_22 : decode cX0_setWhere 22 = .ok (.iload_n 3, 1) := by decide +kernel
theorem dX0_setWhere_23 : decode cX0_setWhere 23 = .ok (.iconst 1, 1) := by decide +kernel
theorem dX0_setWhere_24 : decode cX0_setWhere 24 = .ok (.iload 4, 2) := by decide +kernel
theorem dX0_setWhere_26 : decode cX0_setWhere 26 = .ok (.ishl, 1) := by decide +kernel
theorem dX0_setWhere_27 : decode cX0_setWhere 27 = .ok (.ior, 1) := by decide +kernel
theorem dX0_setWhere_28 : decode cX0_setWhere 28 = .ok (.istore_n 3, 1) := by decide +kernel
theorem dX0_setWhere_29 : decode cX0_setWhere 29 = .ok (.iinc 4 1, 3) := by decide +kernel
theorem dX0_setWhere_32 : decode cX0_setWhere 32 = .ok (.goto (-27), 3) := by decide +kernel
theorem dX0_setWhere_35 : decode cX0_setWhere 35 = .ok (.iload_n 3, 1) := by decide +kernel
theorem dX0_setWhere_36 : decode cX0_setWhere 36 = .ok (.ireturn, 1) := by decide +kernel
set_option maxHeartbeats 4000000 in
set_option maxRecDepth 100000 in
theorem g_X0_setWhere {E : fh_E} {M : fh_M} (C : fh_Cx E M cX0_setWhere 5 RX0 ((some FieldType.int)) rm_X0_setWhere) (Hr : fh_Rt E M) (k1 : Nat) (k2 : Nat) (a3 : Int32) (σ4 : fh_S) : fh_Go E M 5 fh_vI 0 [(0, .ref (fh_ad E k1)), (1, .ref (fh_ad E k2)), (2, .int a3)] [] σ4 (f_X0_setWhere k1 k2 a3 σ4) := by
  have hok := fh_cok C
  refine go_ob ?_
  refine go_iconst C (0 : Int32) dX0_setWhere_0 rfl ?_
  refine go_istore_n C [(3, .int ((0 : Int32))), (0, .ref (fh_ad E k1)), (1, .ref (fh_ad E k2)), (2, .int a3)] rfl rfl (by decide) dX0_setWhere_1 ?_
  refine go_iconst C (0 : Int32) dX0_setWhere_2 rfl ?_
  refine go_istore C [(4, .int ((0 : Int32))), (3, .int ((0 : Int32))), (0, .ref (fh_ad E k1)), (1, .ref (fh_ad E k2)), (2, .int a3)] rfl (by decide) dX0_setWhere_3 ?_
  refine go_lv [2, 3, 4, 1, 0] (lv' := [(0, .ref (fh_ad E k1)), (1, .ref (fh_ad E k2)), (2, .int a3), (3, .int ((0 : Int32))), (4, .int ((0 : Int32)))]) rfl ?_
  refine go_fx (fun (r8 : Int32 → Int32 → fh_S → Option (Int32 × fh_S)) => ∀ (x5 : Int32) (x6 : Int32) (σ7 : fh_S), fh_Go E M 5 fh_vI 5 [(0, .ref (fh_ad E k1)), (1, .ref (fh_ad E k2)), (2, .int a3), (3, .int x5), (4, .int x6)] [] σ7 (r8 x5 x6 σ7)) ?_ ?_ fh_fu ((0 : Int32)) ((0 : Int32)) σ4
  · intro x5 x6 σ7
    exact go_none
  · intro r8 hr8 x5 x6 σ7
    refine go_iload C 4 rfl dX0_setWhere_5 ?_
    refine go_aload_n C 0 rfl rfl dX0_setWhere_7 ?_
    refine go_gi (ci := 0) (j := 9) C fh_in0 rfl (by decide) rfl q_46 dX0_setWhere_8 (fun v9 => ?_)
    refine go_icmp_ge (tgt := 35) C dX0_setWhere_11 rfl (fun _ => ?_) (fun _ => ?_)
    · refine go_iload_n C 3 rfl rfl dX0_setWhere_35 ?_
      exact go_iret C Hr rfl dX0_setWhere_36
    · refine go_aload_n C 1 rfl rfl dX0_setWhere_14 ?_
      refine go_iload C 4 rfl dX0_setWhere_15 ?_
      refine go_iald C dX0_setWhere_17 (fun v10 => ?_)
      refine go_iload_n C 2 rfl rfl dX0_setWhere_18 ?_
      refine go_jn (fun (j13 : Int32 → fh_S → Option (Int32 × fh_S)) => ∀ (x11 : Int32) (σ12 : fh_S), fh_Go E M 5 fh_vI 29 [(0, .ref (fh_ad E k1)), (1, .ref (fh_ad E k2)), (2, .int a3), (3, .int x11), (4, .int x6)] [] σ12 (j13 x11 σ12)) ?_ (fun j13 hj13 => ?_)
      · intro x11 σ12
        refine go_iinc C (x6 + 1) 4 [(4, .int (x6 + 1)), (0, .ref (fh_ad E k1)), (1, .ref (fh_ad E k2)), (2, .int a3), (3, .int x11)] rfl rfl rfl (by decide) dX0_setWhere_29 ?_
        refine go_goto C 5 dX0_setWhere_32 rfl ?_
        refine go_lv [1, 2, 3, 4, 0] (lv' := [(0, .ref (fh_ad E k1)), (1, .ref (fh_ad E k2)), (2, .int a3), (3, .int x11), (4, .int (x6 + 1))]) rfl ?_
        exact hr8 x11 (x6 + 1) σ12
      refine go_icmp_ne (tgt := 29) C dX0_setWhere_19 rfl (fun _ => ?_) (fun _ => ?_)
      · exact hj13 x5 σ7
      · refine go_iload_n C 3 rfl rfl dX0_setWhere_22 ?_
        refine go_iconst C (1 : Int32) dX0_setWhere_23 rfl ?_
        refine go_iload C 4 rfl dX0_setWhere_24 ?_
        refine go_ishl C dX0_setWhere_26 ?_
        refine go_ior C dX0_setWhere_27 ?_
        refine go_istore_n C [(3, .int (x5 ||| (((1 : Int32)) <<< (x6 &&& 31)))), (0, .ref (fh_ad E k1)), (1, .ref (fh_ad E k2)), (2, .int a3), (4, .int x6)] rfl rfl (by decide) dX0_setWhere_28 ?_
        refine go_lv [1, 2, 3, 0, 4] (lv' := [(0, .ref (fh_ad E k1)), (1, .ref (fh_ad E k2)), (2, .int a3), (3, .int (x5 ||| (((1 : Int32)) <<< (x6 &&& 31)))), (4, .int x6)]) rfl ?_
        exact hj13 (x5 ||| (((1 : Int32)) <<< (x6 &&& 31))) σ7
theorem m_X0_setWhere (E : fh_E) (l : Launch) (hok : fh_ok E) (k1 : Nat) (k2 : Nat) (a3 : Int32) (σ4 : fh_S) : fh_Met E l yX0_setWhere cX0_setWhere 5 ((some FieldType.int)) rm_X0_setWhere fh_vI [.ref (fh_ad E k1), .ref (fh_ad E k2), .int a3] σ4 (f_X0_setWhere k1 k2 a3 σ4) := fh_met hok (by decide +kernel) (Nat.le_of_ble_eq_true rfl) (fun M _ C Hr => g_X0_setWhere C Hr k1 k2 a3 σ4)
def f_X0_stoppedSet (k1 : Nat) (σ2 : fh_S) : Option (Int32 × fh_S) := fh_ob 0 k1 ((fh_gr 0 k1 4).bind fun k3 => fh_cb (f_X0_setWhere k1 k3 ((1 : Int32)) σ2) fun r5 σ4 => some (r5, σ4))
abbrev rm_X0_stoppedSet : Room := { frames := 1, cells := 0, slots := 0, locals := 24 }
theorem pd_X0_stoppedSet : yX0_stoppedSet.cls ≠ "java/lang/invoke/MethodHandle" ∧ yX0_stoppedSet.cls ≠ "java/lang/invoke/VarHandle" ∧ (parseMethodDescriptor yX0_stoppedSet.desc).map (fun d => d.parameters.length) = some 0 := by decide +kernel
theorem dX0_stoppedSet_0 : decode cX0_stoppedSet 0 = .ok (.aload_n 0, 1) := by decide +kernel
theorem dX0_stoppedSet_1 : decode cX0_stoppedSet 1 = .ok (.aload_n 0, 1) := by decide +kernel
theorem dX0_stoppedSet_2 : decode cX0_stoppedSet 2 = .ok (.getfield 24, 3) := by decide +kernel
theorem dX0_stoppedSet_5 : decode cX0_stoppedSet 5 = .ok (.iconst 1, 1) := by decide +kernel
theorem dX0_stoppedSet_6 : decode cX0_stoppedSet 6 = .ok (.invokevirtual 110, 3) := by decide +kernel
theorem dX0_stoppedSet_9 : decode cX0_stoppedSet 9 = .ok (.ireturn, 1) := by decide +kernel
set_option maxHeartbeats 4000000 in
set_option maxRecDepth 100000 in
theorem g_X0_stoppedSet {E : fh_E} {M : fh_M} (C : fh_Cx E M cX0_stoppedSet 1 RX0 ((some FieldType.int)) rm_X0_stoppedSet) (Hr : fh_Rt E M) (k1 : Nat) (σ2 : fh_S) : fh_Go E M 1 fh_vI 0 [(0, .ref (fh_ad E k1))] [] σ2 (f_X0_stoppedSet k1 σ2) := by
  have hok := fh_cok C
  refine go_ob ?_
  refine go_aload_n C 0 rfl rfl dX0_stoppedSet_0 ?_
  refine go_aload_n C 0 rfl rfl dX0_stoppedSet_1 ?_
  refine go_gr (ci := 0) (j := 4) C fh_in0 rfl (by decide) rfl q_39 dX0_stoppedSet_2 (fun k3 => ?_)
  refine go_iconst C (1 : Int32) dX0_stoppedSet_5 rfl ?_
  refine go_callVI C (st := []) [.ref (fh_ad E k3), .int ((1 : Int32))] (m_X0_setWhere E _ hok k1 k3 ((1 : Int32)) σ2) (fun _ h => fh_ob_ok h) rfl rfl ⟨q_286, q_288, qs_2, q_2, q_289⟩ pd_X0_setWhere rfl ⟨⟨Nat.le_of_ble_eq_true rfl, Nat.le_of_ble_eq_true rfl⟩, rfl, rfl⟩ (Nat.le_of_ble_eq_true rfl) dX0_stoppedSet_6 (fun r5 σ4 => ?_)
  exact go_iret C Hr rfl dX0_stoppedSet_9
theorem m_X0_stoppedSet (E : fh_E) (l : Launch) (hok : fh_ok E) (k1 : Nat) (σ2 : fh_S) : fh_Met E l yX0_stoppedSet cX0_stoppedSet 1 ((some FieldType.int)) rm_X0_stoppedSet fh_vI [.ref (fh_ad E k1)] σ2 (f_X0_stoppedSet k1 σ2) := fh_met hok (by decide +kernel) (Nat.le_of_ble_eq_true rfl) (fun M _ C Hr => g_X0_stoppedSet C Hr k1 σ2)
def f_X0_stillSet (k1 : Nat) (σ2 : fh_S) : Option (Int32 × fh_S) := fh_ob 0 k1 ((fh_gr 0 k1 3).bind fun k3 => fh_cb (f_X0_setWhere k1 k3 ((0 : Int32)) σ2) fun r5 σ4 => some (r5, σ4))
abbrev rm_X0_stillSet : Room := { frames := 1, cells := 0, slots := 0, locals := 24 }
theorem pd_X0_stillSet : yX0_stillSet.cls ≠ "java/lang/invoke/MethodHandle" ∧ yX0_stillSet.cls ≠ "java/lang/invoke/VarHandle" ∧ (parseMethodDescriptor yX0_stillSet.desc).map (fun d => d.parameters.length) = some 0 := by decide +kernel
theorem dX0_stillSet_0 : decode cX0_stillSet 0 = .ok (.aload_n 0, 1) := by decide +kernel
theorem dX0_stillSet_1 : decode cX0_stillSet 1 = .ok (.aload_n 0, 1) := by decide +kernel
theorem dX0_stillSet_2 : decode cX0_stillSet 2 = .ok (.getfield 21, 3) := by decide +kernel
theorem dX0_stillSet_5 : decode cX0_stillSet 5 = .ok (.iconst 0, 1) := by decide +kernel
theorem dX0_stillSet_6 : decode cX0_stillSet 6 = .ok (.invokevirtual 110, 3) := by decide +kernel
theorem dX0_stillSet_9 : decode cX0_stillSet 9 = .ok (.ireturn, 1) := by decide +kernel
set_option maxHeartbeats 4000000 in
set_option maxRecDepth 100000 in
theorem g_X0_stillSet {E : fh_E} {M : fh_M} (C : fh_Cx E M cX0_stillSet 1 RX0 ((some FieldType.int)) rm_X0_stillSet) (Hr : fh_Rt E M) (k1 : Nat) (σ2 : fh_S) : fh_Go E M 1 fh_vI 0 [(0, .ref (fh_ad E k1))] [] σ2 (f_X0_stillSet k1 σ2) := by
  have hok := fh_cok C
  refine go_ob ?_
  refine go_aload_n C 0 rfl rfl dX0_stillSet_0 ?_
  refine go_aload_n C 0 rfl rfl dX0_stillSet_1 ?_
  refine go_gr (ci := 0) (j := 3) C fh_in0 rfl (by decide) rfl q_36 dX0_stillSet_2 (fun k3 => ?_)
  refine go_iconst C (0 : Int32) dX0_stillSet_5 rfl ?_
  refine go_callVI C (st := []) [.ref (fh_ad E k3), .int ((0 : Int32))] (m_X0_setWhere E _ hok k1 k3 ((0 : Int32)) σ2) (fun _ h => fh_ob_ok h) rfl rfl ⟨q_286, q_288, qs_2, q_2, q_289⟩ pd_X0_setWhere rfl ⟨⟨Nat.le_of_ble_eq_true rfl, Nat.le_of_ble_eq_true rfl⟩, rfl, rfl⟩ (Nat.le_of_ble_eq_true rfl) dX0_stillSet_6 (fun r5 σ4 => ?_)
  exact go_iret C Hr rfl dX0_stillSet_9
theorem m_X0_stillSet (E : fh_E) (l : Launch) (hok : fh_ok E) (k1 : Nat) (σ2 : fh_S) : fh_Met E l yX0_stillSet cX0_stillSet 1 ((some FieldType.int)) rm_X0_stillSet fh_vI [.ref (fh_ad E k1)] σ2 (f_X0_stillSet k1 σ2) := fh_met hok (by decide +kernel) (Nat.le_of_ble_eq_true rfl) (fun M _ C Hr => g_X0_stillSet C Hr k1 σ2)
def f_X0_ownMasterSet_J28 (r6 : Int32 → Int32 → fh_S → Option (Int32 × fh_S)) (x4 : Int32) : Int32 → fh_S → Option (Int32 × fh_S) := fun x10 σ11 => r6 x10 (x4 + 1) σ11
def f_X0_ownMasterSet_B4 (k1 : Nat) (r6 : Int32 → Int32 → fh_S → Option (Int32 × fh_S)) : Int32 → Int32 → fh_S → Option (Int32 × fh_S) := fun x3 x4 σ5 => (fh_gi σ5 0 k1 9).bind fun v7 => if v7 ≤ x4 then some (x3, σ5) else (fh_gr 0 k1 2).bind fun k8 => (fh_ld σ5 k8 x4).bind fun v9 => fh_jn (f_X0_ownMasterSet_J28 r6 x4) (fun j12 => if v9 = x4 then j12 (x3 ||| (((1 : Int32)) <<< (x4 &&& 31))) σ5 else j12 x3 σ5)
def f_X0_ownMasterSet (k1 : Nat) (σ2 : fh_S) : Option (Int32 × fh_S) := fh_ob 0 k1 (fh_fx (ρ := Int32 → Int32 → fh_S → Option (Int32 × fh_S)) (fun _ _ _ => none) (f_X0_ownMasterSet_B4 k1) fh_fu ((0 : Int32)) ((0 : Int32)) σ2)
abbrev rm_X0_ownMasterSet : Room := { frames := 0, cells := 0, slots := 0, locals := 0 }
theorem pd_X0_ownMasterSet : yX0_ownMasterSet.cls ≠ "java/lang/invoke/MethodHandle" ∧ yX0_ownMasterSet.cls ≠ "java/lang/invoke/VarHandle" ∧ (parseMethodDescriptor yX0_ownMasterSet.desc).map (fun d => d.parameters.length) = some 0 := by decide +kernel
theorem dX0_ownMasterSet_0 : decode cX0_ownMasterSet 0 = .ok (.iconst 0, 1) := by decide +kernel
theorem dX0_ownMasterSet_1 : decode cX0_ownMasterSet 1 = .ok (.istore_n 1, 1) := by decide +kernel
theorem dX0_ownMasterSet_2 : decode cX0_ownMasterSet 2 = .ok (.iconst 0, 1) := by decide +kernel
theorem dX0_ownMasterSet_3 : decode cX0_ownMasterSet 3 = .ok (.istore_n 2, 1) := by decide +kernel
theorem dX0_ownMasterSet_4 : decode cX0_ownMasterSet 4 = .ok (.iload_n 2, 1) := by decide +kernel
theorem dX0_ownMasterSet_5 : decode cX0_ownMasterSet 5 = .ok (.aload_n 0, 1) := by decide +kernel
theorem dX0_ownMasterSet_6 : decode cX0_ownMasterSet 6 = .ok (.getfield 39, 3) := by decide +kernel
theorem dX0_ownMasterSet_9 : decode cX0_ownMasterSet 9 = .ok (.if_icmp .ge 25, 3) := by decide +kernel
theorem dX0_ownMasterSet_12 : decode cX0_ownMasterSet 12 = .ok (.aload_n 0, 1) := by decide +kernel
theorem dX0_ownMasterSet_13 : decode cX0_ownMasterSet 13 = .ok (.getfield 18, 3) := by decide +kernel
theorem dX0_ownMasterSet_16 : decode cX0_ownMasterSet 16 = .ok (.iload_n 2, 1) := by decide +kernel
theorem dX0_ownMasterSet_17 : decode cX0_ownMasterSet 17 = .ok (.iaload, 1) := by decide +kernel
theorem dX0_ownMasterSet_18 : decode cX0_ownMasterSet 18 = .ok (.iload_n 2, 1) := by decide +kernel
theorem dX0_ownMasterSet_19 : decode cX0_ownMasterSet 19 = .ok (.if_icmp .ne 9, 3) := by decide +kernel
theorem dX0_ownMasterSet_22 : decode cX0_ownMasterSet 22 = .ok (.iload_n 1, 1) := by decide +kernel
theorem dX0_ownMasterSet_23 : decode cX0_ownMasterSet 23 = .ok (.iconst 1, 1) := by decide +kernel
theorem dX0_ownMasterSet_24 : decode cX0_ownMasterSet 24 = .ok (.iload_n 2, 1) := by decide +kernel
theorem dX0_ownMasterSet_25 : decode cX0_ownMasterSet 25 = .ok (.ishl, 1) := by decide +kernel
theorem dX0_ownMasterSet_26 : decode cX0_ownMasterSet 26 = .ok (.ior, 1) := by decide +kernel
theorem dX0_ownMasterSet_27 : decode cX0_ownMasterSet 27 = .ok (.istore_n 1, 1) := by decide +kernel
theorem dX0_ownMasterSet_28 : decode cX0_ownMasterSet 28 = .ok (.iinc 2 1, 3) := by decide +kernel
theorem dX0_ownMasterSet_31 : decode cX0_ownMasterSet 31 = .ok (.goto (-27), 3) := by decide +kernel
theorem dX0_ownMasterSet_34 : decode cX0_ownMasterSet 34 = .ok (.iload_n 1, 1) := by decide +kernel
theorem dX0_ownMasterSet_35 : decode cX0_ownMasterSet 35 = .ok (.ireturn, 1) := by decide +kernel
set_option maxHeartbeats 4000000 in
set_option maxRecDepth 100000 in
theorem g_X0_ownMasterSet {E : fh_E} {M : fh_M} (C : fh_Cx E M cX0_ownMasterSet 3 RX0 ((some FieldType.int)) rm_X0_ownMasterSet) (Hr : fh_Rt E M) (k1 : Nat) (σ2 : fh_S) : fh_Go E M 3 fh_vI 0 [(0, .ref (fh_ad E k1))] [] σ2 (f_X0_ownMasterSet k1 σ2) := by
  have hok := fh_cok C
  refine go_ob ?_
  refine go_iconst C (0 : Int32) dX0_ownMasterSet_0 rfl ?_
  refine go_istore_n C [(1, .int ((0 : Int32))), (0, .ref (fh_ad E k1))] rfl rfl (by decide) dX0_ownMasterSet_1 ?_
  refine go_iconst C (0 : Int32) dX0_ownMasterSet_2 rfl ?_
  refine go_istore_n C [(2, .int ((0 : Int32))), (1, .int ((0 : Int32))), (0, .ref (fh_ad E k1))] rfl rfl (by decide) dX0_ownMasterSet_3 ?_
  refine go_lv [2, 1, 0] (lv' := [(0, .ref (fh_ad E k1)), (1, .int ((0 : Int32))), (2, .int ((0 : Int32)))]) rfl ?_
  refine go_fx (fun (r6 : Int32 → Int32 → fh_S → Option (Int32 × fh_S)) => ∀ (x3 : Int32) (x4 : Int32) (σ5 : fh_S), fh_Go E M 3 fh_vI 4 [(0, .ref (fh_ad E k1)), (1, .int x3), (2, .int x4)] [] σ5 (r6 x3 x4 σ5)) ?_ ?_ fh_fu ((0 : Int32)) ((0 : Int32)) σ2
  · intro x3 x4 σ5
    exact go_none
  · intro r6 hr6 x3 x4 σ5
    refine go_iload_n C 2 rfl rfl dX0_ownMasterSet_4 ?_
    refine go_aload_n C 0 rfl rfl dX0_ownMasterSet_5 ?_
    refine go_gi (ci := 0) (j := 9) C fh_in0 rfl (by decide) rfl q_46 dX0_ownMasterSet_6 (fun v7 => ?_)
    refine go_icmp_ge (tgt := 34) C dX0_ownMasterSet_9 rfl (fun _ => ?_) (fun _ => ?_)
    · refine go_iload_n C 1 rfl rfl dX0_ownMasterSet_34 ?_
      exact go_iret C Hr rfl dX0_ownMasterSet_35
    · refine go_aload_n C 0 rfl rfl dX0_ownMasterSet_12 ?_
      refine go_gr (ci := 0) (j := 2) C fh_in0 rfl (by decide) rfl q_33 dX0_ownMasterSet_13 (fun k8 => ?_)
      refine go_iload_n C 2 rfl rfl dX0_ownMasterSet_16 ?_
      refine go_iald C dX0_ownMasterSet_17 (fun v9 => ?_)
      refine go_iload_n C 2 rfl rfl dX0_ownMasterSet_18 ?_
      refine go_jn (fun (j12 : Int32 → fh_S → Option (Int32 × fh_S)) => ∀ (x10 : Int32) (σ11 : fh_S), fh_Go E M 3 fh_vI 28 [(0, .ref (fh_ad E k1)), (1, .int x10), (2, .int x4)] [] σ11 (j12 x10 σ11)) ?_ (fun j12 hj12 => ?_)
      · intro x10 σ11
        refine go_iinc C (x4 + 1) 2 [(2, .int (x4 + 1)), (0, .ref (fh_ad E k1)), (1, .int x10)] rfl rfl rfl (by decide) dX0_ownMasterSet_28 ?_
        refine go_goto C 4 dX0_ownMasterSet_31 rfl ?_
        refine go_lv [1, 2, 0] (lv' := [(0, .ref (fh_ad E k1)), (1, .int x10), (2, .int (x4 + 1))]) rfl ?_
        exact hr6 x10 (x4 + 1) σ11
      refine go_icmp_ne (tgt := 28) C dX0_ownMasterSet_19 rfl (fun _ => ?_) (fun _ => ?_)
      · exact hj12 x3 σ5
      · refine go_iload_n C 1 rfl rfl dX0_ownMasterSet_22 ?_
        refine go_iconst C (1 : Int32) dX0_ownMasterSet_23 rfl ?_
        refine go_iload_n C 2 rfl rfl dX0_ownMasterSet_24 ?_
        refine go_ishl C dX0_ownMasterSet_25 ?_
        refine go_ior C dX0_ownMasterSet_26 ?_
        refine go_istore_n C [(1, .int (x3 ||| (((1 : Int32)) <<< (x4 &&& 31)))), (0, .ref (fh_ad E k1)), (2, .int x4)] rfl rfl (by decide) dX0_ownMasterSet_27 ?_
        refine go_lv [1, 0, 2] (lv' := [(0, .ref (fh_ad E k1)), (1, .int (x3 ||| (((1 : Int32)) <<< (x4 &&& 31)))), (2, .int x4)]) rfl ?_
        exact hj12 (x3 ||| (((1 : Int32)) <<< (x4 &&& 31))) σ5
theorem m_X0_ownMasterSet (E : fh_E) (l : Launch) (hok : fh_ok E) (k1 : Nat) (σ2 : fh_S) : fh_Met E l yX0_ownMasterSet cX0_ownMasterSet 3 ((some FieldType.int)) rm_X0_ownMasterSet fh_vI [.ref (fh_ad E k1)] σ2 (f_X0_ownMasterSet k1 σ2) := fh_met hok (by decide +kernel) (Nat.le_of_ble_eq_true rfl) (fun M _ C Hr => g_X0_ownMasterSet C Hr k1 σ2)
def f_X0_sumOf_B4 (k1 : Nat) (k2 : Nat) (r7 : Int32 → Int32 → fh_S → Option (Int32 × fh_S)) : Int32 → Int32 → fh_S → Option (Int32 × fh_S) := fun x4 x5 σ6 => (fh_gi σ6 0 k1 9).bind fun v8 => if v8 ≤ x5 then some (x4, σ6) else (fh_ld σ6 k2 x5).bind fun v9 => r7 (x4 + v9) (x5 + 1) σ6
def f_X0_sumOf (k1 : Nat) (k2 : Nat) (σ3 : fh_S) : Option (Int32 × fh_S) := fh_ob 0 k1 (fh_fx (ρ := Int32 → Int32 → fh_S → Option (Int32 × fh_S)) (fun _ _ _ => none) (f_X0_sumOf_B4 k1 k2) fh_fu ((0 : Int32)) ((0 : Int32)) σ3)
abbrev rm_X0_sumOf : Room := { frames := 0, cells := 0, slots := 0, locals := 0 }
theorem pd_X0_sumOf : yX0_sumOf.cls ≠ "java/lang/invoke/MethodHandle" ∧ yX0_sumOf.cls ≠ "java/lang/invoke/VarHandle" ∧ (parseMethodDescriptor yX0_sumOf.desc).map (fun d => d.parameters.length) = some 1 := by decide +kernel
theorem dX0_sumOf_0 : decode cX0_sumOf 0 = .ok (.iconst 0, 1) := by decide +kernel
theorem dX0_sumOf_1 : decode cX0_sumOf 1 = .ok (.istore_n 2, 1) := by decide +kernel
theorem dX0_sumOf_2 : decode cX0_sumOf 2 = .ok (.iconst 0, 1) := by decide +kernel
theorem dX0_sumOf_3 : decode cX0_sumOf 3 = .ok (.istore_n 3, 1) := by decide +kernel
theorem dX0_sumOf_4 : decode cX0_sumOf 4 = .ok (.iload_n 3, 1) := by decide +kernel
theorem dX0_sumOf_5 : decode cX0_sumOf 5 = .ok (.aload_n 0, 1) := by decide +kernel
theorem dX0_sumOf_6 : decode cX0_sumOf 6 = .ok (.getfield 39, 3) := by decide +kernel
theorem dX0_sumOf_9 : decode cX0_sumOf 9 = .ok (.if_icmp .ge 15, 3) := by decide +kernel
theorem dX0_sumOf_12 : decode cX0_sumOf 12 = .ok (.iload_n 2, 1) := by decide +kernel
theorem dX0_sumOf_13 : decode cX0_sumOf 13 = .ok (.aload_n 1, 1) := by decide +kernel
theorem dX0_sumOf_14 : decode cX0_sumOf 14 = .ok (.iload_n 3, 1) := by decide +kernel
theorem dX0_sumOf_15 : decode cX0_sumOf 15 = .ok (.iaload, 1) := by decide +kernel
theorem dX0_sumOf_16 : decode cX0_sumOf 16 = .ok (.iadd, 1) := by decide +kernel
theorem dX0_sumOf_17 : decode cX0_sumOf 17 = .ok (.istore_n 2, 1) := by decide +kernel
theorem dX0_sumOf_18 : decode cX0_sumOf 18 = .ok (.iinc 3 1, 3) := by decide +kernel
theorem dX0_sumOf_21 : decode cX0_sumOf 21 = .ok (.goto (-17), 3) := by decide +kernel
theorem dX0_sumOf_24 : decode cX0_sumOf 24 = .ok (.iload_n 2, 1) := by decide +kernel
theorem dX0_sumOf_25 : decode cX0_sumOf 25 = .ok (.ireturn, 1) := by decide +kernel
set_option maxHeartbeats 4000000 in
set_option maxRecDepth 100000 in
theorem g_X0_sumOf {E : fh_E} {M : fh_M} (C : fh_Cx E M cX0_sumOf 4 RX0 ((some FieldType.int)) rm_X0_sumOf) (Hr : fh_Rt E M) (k1 : Nat) (k2 : Nat) (σ3 : fh_S) : fh_Go E M 4 fh_vI 0 [(0, .ref (fh_ad E k1)), (1, .ref (fh_ad E k2))] [] σ3 (f_X0_sumOf k1 k2 σ3) := by
  have hok := fh_cok C
  refine go_ob ?_
  refine go_iconst C (0 : Int32) dX0_sumOf_0 rfl ?_
  refine go_istore_n C [(2, .int ((0 : Int32))), (0, .ref (fh_ad E k1)), (1, .ref (fh_ad E k2))] rfl rfl (by decide) dX0_sumOf_1 ?_
  refine go_iconst C (0 : Int32) dX0_sumOf_2 rfl ?_
  refine go_istore_n C [(3, .int ((0 : Int32))), (2, .int ((0 : Int32))), (0, .ref (fh_ad E k1)), (1, .ref (fh_ad E k2))] rfl rfl (by decide) dX0_sumOf_3 ?_
  refine go_lv [2, 3, 1, 0] (lv' := [(0, .ref (fh_ad E k1)), (1, .ref (fh_ad E k2)), (2, .int ((0 : Int32))), (3, .int ((0 : Int32)))]) rfl ?_
  refine go_fx (fun (r7 : Int32 → Int32 → fh_S → Option (Int32 × fh_S)) => ∀ (x4 : Int32) (x5 : Int32) (σ6 : fh_S), fh_Go E M 4 fh_vI 4 [(0, .ref (fh_ad E k1)), (1, .ref (fh_ad E k2)), (2, .int x4), (3, .int x5)] [] σ6 (r7 x4 x5 σ6)) ?_ ?_ fh_fu ((0 : Int32)) ((0 : Int32)) σ3
  · intro x4 x5 σ6
    exact go_none
  · intro r7 hr7 x4 x5 σ6
    refine go_iload_n C 3 rfl rfl dX0_sumOf_4 ?_
    refine go_aload_n C 0 rfl rfl dX0_sumOf_5 ?_
    refine go_gi (ci := 0) (j := 9) C fh_in0 rfl (by decide) rfl q_46 dX0_sumOf_6 (fun v8 => ?_)
    refine go_icmp_ge (tgt := 24) C dX0_sumOf_9 rfl (fun _ => ?_) (fun _ => ?_)
    · refine go_iload_n C 2 rfl rfl dX0_sumOf_24 ?_
      exact go_iret C Hr rfl dX0_sumOf_25
    · refine go_iload_n C 2 rfl rfl dX0_sumOf_12 ?_
      refine go_aload_n C 1 rfl rfl dX0_sumOf_13 ?_
      refine go_iload_n C 3 rfl rfl dX0_sumOf_14 ?_
      refine go_iald C dX0_sumOf_15 (fun v9 => ?_)
      refine go_iadd C dX0_sumOf_16 ?_
      refine go_istore_n C [(2, .int (x4 + v9)), (0, .ref (fh_ad E k1)), (1, .ref (fh_ad E k2)), (3, .int x5)] rfl rfl (by decide) dX0_sumOf_17 ?_
      refine go_iinc C (x5 + 1) 3 [(3, .int (x5 + 1)), (2, .int (x4 + v9)), (0, .ref (fh_ad E k1)), (1, .ref (fh_ad E k2))] rfl rfl rfl (by decide) dX0_sumOf_18 ?_
      refine go_goto C 4 dX0_sumOf_21 rfl ?_
      refine go_lv [2, 3, 1, 0] (lv' := [(0, .ref (fh_ad E k1)), (1, .ref (fh_ad E k2)), (2, .int (x4 + v9)), (3, .int (x5 + 1))]) rfl ?_
      exact hr7 (x4 + v9) (x5 + 1) σ6
theorem m_X0_sumOf (E : fh_E) (l : Launch) (hok : fh_ok E) (k1 : Nat) (k2 : Nat) (σ3 : fh_S) : fh_Met E l yX0_sumOf cX0_sumOf 4 ((some FieldType.int)) rm_X0_sumOf fh_vI [.ref (fh_ad E k1), .ref (fh_ad E k2)] σ3 (f_X0_sumOf k1 k2 σ3) := fh_met hok (by decide +kernel) (Nat.le_of_ble_eq_true rfl) (fun M _ C Hr => g_X0_sumOf C Hr k1 k2 σ3)
def f_X0_heldCount_J22 (r6 : Int32 → Int32 → fh_S → Option (Int32 × fh_S)) (x4 : Int32) : Int32 → fh_S → Option (Int32 × fh_S) := fun x9 σ10 => r6 x9 (x4 + 1) σ10
def f_X0_heldCount_B4 (k1 : Nat) (r6 : Int32 → Int32 → fh_S → Option (Int32 × fh_S)) : Int32 → Int32 → fh_S → Option (Int32 × fh_S) := fun x3 x4 σ5 => if ((10 : Int32)) ≤ x4 then some (x3, σ5) else (fh_gr 0 k1 6).bind fun k7 => (fh_ld σ5 k7 x4).bind fun v8 => fh_jn (f_X0_heldCount_J22 r6 x4) (fun j11 => if v8 < 0 then j11 x3 σ5 else j11 (x3 + 1) σ5)
def f_X0_heldCount (k1 : Nat) (σ2 : fh_S) : Option (Int32 × fh_S) := fh_ob 0 k1 (fh_fx (ρ := Int32 → Int32 → fh_S → Option (Int32 × fh_S)) (fun _ _ _ => none) (f_X0_heldCount_B4 k1) fh_fu ((0 : Int32)) ((0 : Int32)) σ2)
abbrev rm_X0_heldCount : Room := { frames := 0, cells := 0, slots := 0, locals := 0 }
theorem pd_X0_heldCount : yX0_heldCount.cls ≠ "java/lang/invoke/MethodHandle" ∧ yX0_heldCount.cls ≠ "java/lang/invoke/VarHandle" ∧ (parseMethodDescriptor yX0_heldCount.desc).map (fun d => d.parameters.length) = some 0 := by decide +kernel
theorem dX0_heldCount_0 : decode cX0_heldCount 0 = .ok (.iconst 0, 1) := by decide +kernel
theorem dX0_heldCount_1 : decode cX0_heldCount 1 = .ok (.istore_n 1, 1) := by decide +kernel
theorem dX0_heldCount_2 : decode cX0_heldCount 2 = .ok (.iconst 0, 1) := by decide +kernel
theorem dX0_heldCount_3 : decode cX0_heldCount 3 = .ok (.istore_n 2, 1) := by decide +kernel
theorem dX0_heldCount_4 : decode cX0_heldCount 4 = .ok (.iload_n 2, 1) := by decide +kernel
theorem dX0_heldCount_5 : decode cX0_heldCount 5 = .ok (.bipush 10, 2) := by decide +kernel
theorem dX0_heldCount_7 : decode cX0_heldCount 7 = .ok (.if_icmp .ge 21, 3) := by decide +kernel
theorem dX0_heldCount_10 : decode cX0_heldCount 10 = .ok (.aload_n 0, 1) := by decide +kernel
theorem dX0_heldCount_11 : decode cX0_heldCount 11 = .ok (.getfield 30, 3) := by decide +kernel
theorem dX0_heldCount_14 : decode cX0_heldCount 14 = .ok (.iload_n 2, 1) := by decide +kernel
theorem dX0_heldCount_15 : decode cX0_heldCount 15 = .ok (.iaload, 1) := by decide +kernel
theorem dX0_heldCount_16 : decode cX0_heldCount 16 = .ok (.ifCond .lt 6, 3) := by decide +kernel
theorem dX0_heldCount_19 : decode cX0_heldCount 19 = .ok (.iinc 1 1, 3) := by decide +kernel
theorem dX0_heldCount_22 : decode cX0_heldCount 22 = .ok (.iinc 2 1, 3) := by decide +kernel
theorem dX0_heldCount_25 : decode cX0_heldCount 25 = .ok (.goto (-21), 3) := by decide +kernel
theorem dX0_heldCount_28 : decode cX0_heldCount 28 = .ok (.iload_n 1, 1) := by decide +kernel
theorem dX0_heldCount_29 : decode cX0_heldCount 29 = .ok (.ireturn, 1) := by decide +kernel
set_option maxHeartbeats 4000000 in
set_option maxRecDepth 100000 in
theorem g_X0_heldCount {E : fh_E} {M : fh_M} (C : fh_Cx E M cX0_heldCount 3 RX0 ((some FieldType.int)) rm_X0_heldCount) (Hr : fh_Rt E M) (k1 : Nat) (σ2 : fh_S) : fh_Go E M 3 fh_vI 0 [(0, .ref (fh_ad E k1))] [] σ2 (f_X0_heldCount k1 σ2) := by
  have hok := fh_cok C
  refine go_ob ?_
  refine go_iconst C (0 : Int32) dX0_heldCount_0 rfl ?_
  refine go_istore_n C [(1, .int ((0 : Int32))), (0, .ref (fh_ad E k1))] rfl rfl (by decide) dX0_heldCount_1 ?_
  refine go_iconst C (0 : Int32) dX0_heldCount_2 rfl ?_
  refine go_istore_n C [(2, .int ((0 : Int32))), (1, .int ((0 : Int32))), (0, .ref (fh_ad E k1))] rfl rfl (by decide) dX0_heldCount_3 ?_
  refine go_lv [2, 1, 0] (lv' := [(0, .ref (fh_ad E k1)), (1, .int ((0 : Int32))), (2, .int ((0 : Int32)))]) rfl ?_
  refine go_fx (fun (r6 : Int32 → Int32 → fh_S → Option (Int32 × fh_S)) => ∀ (x3 : Int32) (x4 : Int32) (σ5 : fh_S), fh_Go E M 3 fh_vI 4 [(0, .ref (fh_ad E k1)), (1, .int x3), (2, .int x4)] [] σ5 (r6 x3 x4 σ5)) ?_ ?_ fh_fu ((0 : Int32)) ((0 : Int32)) σ2
  · intro x3 x4 σ5
    exact go_none
  · intro r6 hr6 x3 x4 σ5
    refine go_iload_n C 2 rfl rfl dX0_heldCount_4 ?_
    refine go_bipush C (10 : Int32) dX0_heldCount_5 rfl ?_
    refine go_icmp_ge (tgt := 28) C dX0_heldCount_7 rfl (fun _ => ?_) (fun _ => ?_)
    · refine go_iload_n C 1 rfl rfl dX0_heldCount_28 ?_
      exact go_iret C Hr rfl dX0_heldCount_29
    · refine go_aload_n C 0 rfl rfl dX0_heldCount_10 ?_
      refine go_gr (ci := 0) (j := 6) C fh_in0 rfl (by decide) rfl q_42 dX0_heldCount_11 (fun k7 => ?_)
      refine go_iload_n C 2 rfl rfl dX0_heldCount_14 ?_
      refine go_iald C dX0_heldCount_15 (fun v8 => ?_)
      refine go_jn (fun (j11 : Int32 → fh_S → Option (Int32 × fh_S)) => ∀ (x9 : Int32) (σ10 : fh_S), fh_Go E M 3 fh_vI 22 [(0, .ref (fh_ad E k1)), (1, .int x9), (2, .int x4)] [] σ10 (j11 x9 σ10)) ?_ (fun j11 hj11 => ?_)
      · intro x9 σ10
        refine go_iinc C (x4 + 1) 2 [(2, .int (x4 + 1)), (0, .ref (fh_ad E k1)), (1, .int x9)] rfl rfl rfl (by decide) dX0_heldCount_22 ?_
        refine go_goto C 4 dX0_heldCount_25 rfl ?_
        refine go_lv [1, 2, 0] (lv' := [(0, .ref (fh_ad E k1)), (1, .int x9), (2, .int (x4 + 1))]) rfl ?_
        exact hr6 x9 (x4 + 1) σ10
      refine go_if_lt (tgt := 22) C dX0_heldCount_16 rfl (fun _ => ?_) (fun _ => ?_)
      · exact hj11 x3 σ5
      · refine go_iinc C (x3 + 1) 1 [(1, .int (x3 + 1)), (0, .ref (fh_ad E k1)), (2, .int x4)] rfl rfl rfl (by decide) dX0_heldCount_19 ?_
        refine go_lv [1, 0, 2] (lv' := [(0, .ref (fh_ad E k1)), (1, .int (x3 + 1)), (2, .int x4)]) rfl ?_
        exact hj11 (x3 + 1) σ5
theorem m_X0_heldCount (E : fh_E) (l : Launch) (hok : fh_ok E) (k1 : Nat) (σ2 : fh_S) : fh_Met E l yX0_heldCount cX0_heldCount 3 ((some FieldType.int)) rm_X0_heldCount fh_vI [.ref (fh_ad E k1)] σ2 (f_X0_heldCount k1 σ2) := fh_met hok (by decide +kernel) (Nat.le_of_ble_eq_true rfl) (fun M _ C Hr => g_X0_heldCount C Hr k1 σ2)
def f_J6_bitCount_0f7a4 (a1 : Int32) (σ2 : fh_S) : Option (Int32 × fh_S) := some ((((((((a1 - (((a1.toUInt32 >>> (((1 : Int32)).toUInt32 &&& Int32.toUInt32 31)).toInt32) &&& ((1431655765 : Int32)))) &&& ((858993459 : Int32))) + ((((a1 - (((a1.toUInt32 >>> (((1 : Int32)).toUInt32 &&& Int32.toUInt32 31)).toInt32) &&& ((1431655765 : Int32)))).toUInt32 >>> (((2 : Int32)).toUInt32 &&& Int32.toUInt32 31)).toInt32) &&& ((858993459 : Int32)))) + (((((a1 - (((a1.toUInt32 >>> (((1 : Int32)).toUInt32 &&& Int32.toUInt32 31)).toInt32) &&& ((1431655765 : Int32)))) &&& ((858993459 : Int32))) + ((((a1 - (((a1.toUInt32 >>> (((1 : Int32)).toUInt32 &&& Int32.toUInt32 31)).toInt32) &&& ((1431655765 : Int32)))).toUInt32 >>> (((2 : Int32)).toUInt32 &&& Int32.toUInt32 31)).toInt32) &&& ((858993459 : Int32)))).toUInt32 >>> (((4 : Int32)).toUInt32 &&& Int32.toUInt32 31)).toInt32)) &&& ((252645135 : Int32))) + (((((((a1 - (((a1.toUInt32 >>> (((1 : Int32)).toUInt32 &&& Int32.toUInt32 31)).toInt32) &&& ((1431655765 : Int32)))) &&& ((858993459 : Int32))) + ((((a1 - (((a1.toUInt32 >>> (((1 : Int32)).toUInt32 &&& Int32.toUInt32 31)).toInt32) &&& ((1431655765 : Int32)))).toUInt32 >>> (((2 : Int32)).toUInt32 &&& Int32.toUInt32 31)).toInt32) &&& ((858993459 : Int32)))) + (((((a1 - (((a1.toUInt32 >>> (((1 : Int32)).toUInt32 &&& Int32.toUInt32 31)).toInt32) &&& ((1431655765 : Int32)))) &&& ((858993459 : Int32))) + ((((a1 - (((a1.toUInt32 >>> (((1 : Int32)).toUInt32 &&& Int32.toUInt32 31)).toInt32) &&& ((1431655765 : Int32)))).toUInt32 >>> (((2 : Int32)).toUInt32 &&& Int32.toUInt32 31)).toInt32) &&& ((858993459 : Int32)))).toUInt32 >>> (((4 : Int32)).toUInt32 &&& Int32.toUInt32 31)).toInt32)) &&& ((252645135 : Int32))).toUInt32 >>> (((8 : Int32)).toUInt32 &&& Int32.toUInt32 31)).toInt32)) + ((((((((a1 - (((a1.toUInt32 >>> (((1 : Int32)).toUInt32 &&& Int32.toUInt32 31)).toInt32) &&& ((1431655765 : Int32)))) &&& ((858993459 : Int32))) + ((((a1 - (((a1.toUInt32 >>> (((1 : Int32)).toUInt32 &&& Int32.toUInt32 31)).toInt32) &&& ((1431655765 : Int32)))).toUInt32 >>> (((2 : Int32)).toUInt32 &&& Int32.toUInt32 31)).toInt32) &&& ((858993459 : Int32)))) + (((((a1 - (((a1.toUInt32 >>> (((1 : Int32)).toUInt32 &&& Int32.toUInt32 31)).toInt32) &&& ((1431655765 : Int32)))) &&& ((858993459 : Int32))) + ((((a1 - (((a1.toUInt32 >>> (((1 : Int32)).toUInt32 &&& Int32.toUInt32 31)).toInt32) &&& ((1431655765 : Int32)))).toUInt32 >>> (((2 : Int32)).toUInt32 &&& Int32.toUInt32 31)).toInt32) &&& ((858993459 : Int32)))).toUInt32 >>> (((4 : Int32)).toUInt32 &&& Int32.toUInt32 31)).toInt32)) &&& ((252645135 : Int32))) + (((((((a1 - (((a1.toUInt32 >>> (((1 : Int32)).toUInt32 &&& Int32.toUInt32 31)).toInt32) &&& ((1431655765 : Int32)))) &&& ((858993459 : Int32))) + ((((a1 - (((a1.toUInt32 >>> (((1 : Int32)).toUInt32 &&& Int32.toUInt32 31)).toInt32) &&& ((1431655765 : Int32)))).toUInt32 >>> (((2 : Int32)).toUInt32 &&& Int32.toUInt32 31)).toInt32) &&& ((858993459 : Int32)))) + (((((a1 - (((a1.toUInt32 >>> (((1 : Int32)).toUInt32 &&& Int32.toUInt32 31)).toInt32) &&& ((1431655765 : Int32)))) &&& ((858993459 : Int32))) + ((((a1 - (((a1.toUInt32 >>> (((1 : Int32)).toUInt32 &&& Int32.toUInt32 31)).toInt32) &&& ((1431655765 : Int32)))).toUInt32 >>> (((2 : Int32)).toUInt32 &&& Int32.toUInt32 31)).toInt32) &&& ((858993459 : Int32)))).toUInt32 >>> (((4 : Int32)).toUInt32 &&& Int32.toUInt32 31)).toInt32)) &&& ((252645135 : Int32))).toUInt32 >>> (((8 : Int32)).toUInt32 &&& Int32.toUInt32 31)).toInt32)).toUInt32 >>> (((16 : Int32)).toUInt32 &&& Int32.toUInt32 31)).toInt32)) &&& ((63 : Int32)), σ2)
abbrev rm_J6_bitCount_0f7a4 : Room := { frames := 0, cells := 0, slots := 0, locals := 0 }
theorem pd_J6_bitCount_0f7a4 : yJ6_bitCount_0f7a4.cls ≠ "java/lang/invoke/MethodHandle" ∧ yJ6_bitCount_0f7a4.cls ≠ "java/lang/invoke/VarHandle" ∧ (parseMethodDescriptor yJ6_bitCount_0f7a4.desc).map (fun d => d.parameters.length) = some 1 := by decide +kernel
theorem dJ6_bitCount_0f7a4_0 : decode cJ6_bitCount_0f7a4 0 = .ok (.iload_n 0, 1) := by decide +kernel
theorem dJ6_bitCount_0f7a4_1 : decode cJ6_bitCount_0f7a4 1 = .ok (.iload_n 0, 1) := by decide +kernel
theorem dJ6_bitCount_0f7a4_2 : decode cJ6_bitCount_0f7a4 2 = .ok (.iconst 1, 1) := by decide +kernel
theorem dJ6_bitCount_0f7a4_3 : decode cJ6_bitCount_0f7a4 3 = .ok (.iushr, 1) := by decide +kernel
theorem dJ6_bitCount_0f7a4_4 : decode cJ6_bitCount_0f7a4 4 = .ok (.ldc_w 265, 3) := by decide +kernel
theorem dJ6_bitCount_0f7a4_7 : decode cJ6_bitCount_0f7a4 7 = .ok (.iand, 1) := by decide +kernel
theorem dJ6_bitCount_0f7a4_8 : decode cJ6_bitCount_0f7a4 8 = .ok (.isub, 1) := by decide +kernel
theorem dJ6_bitCount_0f7a4_9 : decode cJ6_bitCount_0f7a4 9 = .ok (.istore_n 0, 1) := by decide +kernel
theorem dJ6_bitCount_0f7a4_10 : decode cJ6_bitCount_0f7a4 10 = .ok (.iload_n 0, 1) := by decide +kernel
theorem dJ6_bitCount_0f7a4_11 : decode cJ6_bitCount_0f7a4 11 = .ok (.ldc_w 266, 3) := by decide +kernel
theorem dJ6_bitCount_0f7a4_14 : decode cJ6_bitCount_0f7a4 14 = .ok (.iand, 1) := by decide +kernel
theorem dJ6_bitCount_0f7a4_15 : decode cJ6_bitCount_0f7a4 15 = .ok (.iload_n 0, 1) := by decide +kernel
theorem dJ6_bitCount_0f7a4_16 : decode cJ6_bitCount_0f7a4 16 = .ok (.iconst 2, 1) := by decide +kernel
theorem dJ6_bitCount_0f7a4_17 : decode cJ6_bitCount_0f7a4 17 = .ok (.iushr, 1) := by decide +kernel
theorem dJ6_bitCount_0f7a4_18 : decode cJ6_bitCount_0f7a4 18 = .ok (.ldc_w 266, 3) := by decide +kernel
theorem dJ6_bitCount_0f7a4_21 : decode cJ6_bitCount_0f7a4 21 = .ok (.iand, 1) := by decide +kernel
theorem dJ6_bitCount_0f7a4_22 : decode cJ6_bitCount_0f7a4 22 = .ok (.iadd, 1) := by decide +kernel
theorem dJ6_bitCount_0f7a4_23 : decode cJ6_bitCount_0f7a4 23 = .ok (.istore_n 0, 1) := by decide +kernel
theorem dJ6_bitCount_0f7a4_24 : decode cJ6_bitCount_0f7a4 24 = .ok (.iload_n 0, 1) := by decide +kernel
theorem dJ6_bitCount_0f7a4_25 : decode cJ6_bitCount_0f7a4 25 = .ok (.iload_n 0, 1) := by decide +kernel
theorem dJ6_bitCount_0f7a4_26 : decode cJ6_bitCount_0f7a4 26 = .ok (.iconst 4, 1) := by decide +kernel
theorem dJ6_bitCount_0f7a4_27 : decode cJ6_bitCount_0f7a4 27 = .ok (.iushr, 1) := by decide +kernel
theorem dJ6_bitCount_0f7a4_28 : decode cJ6_bitCount_0f7a4 28 = .ok (.iadd, 1) := by decide +kernel
theorem dJ6_bitCount_0f7a4_29 : decode cJ6_bitCount_0f7a4 29 = .ok (.ldc_w 267, 3) := by decide +kernel
theorem dJ6_bitCount_0f7a4_32 : decode cJ6_bitCount_0f7a4 32 = .ok (.iand, 1) := by decide +kernel
theorem dJ6_bitCount_0f7a4_33 : decode cJ6_bitCount_0f7a4 33 = .ok (.istore_n 0, 1) := by decide +kernel
theorem dJ6_bitCount_0f7a4_34 : decode cJ6_bitCount_0f7a4 34 = .ok (.iload_n 0, 1) := by decide +kernel
theorem dJ6_bitCount_0f7a4_35 : decode cJ6_bitCount_0f7a4 35 = .ok (.iload_n 0, 1) := by decide +kernel
theorem dJ6_bitCount_0f7a4_36 : decode cJ6_bitCount_0f7a4 36 = .ok (.bipush 8, 2) := by decide +kernel
theorem dJ6_bitCount_0f7a4_38 : decode cJ6_bitCount_0f7a4 38 = .ok (.iushr, 1) := by decide +kernel
theorem dJ6_bitCount_0f7a4_39 : decode cJ6_bitCount_0f7a4 39 = .ok (.iadd, 1) := by decide +kernel
theorem dJ6_bitCount_0f7a4_40 : decode cJ6_bitCount_0f7a4 40 = .ok (.istore_n 0, 1) := by decide +kernel
theorem dJ6_bitCount_0f7a4_41 : decode cJ6_bitCount_0f7a4 41 = .ok (.iload_n 0, 1) := by decide +kernel
theorem dJ6_bitCount_0f7a4_42 : decode cJ6_bitCount_0f7a4 42 = .ok (.iload_n 0, 1) := by decide +kernel
theorem dJ6_bitCount_0f7a4_43 : decode cJ6_bitCount_0f7a4 43 = .ok (.bipush 16, 2) := by decide +kernel
theorem dJ6_bitCount_0f7a4_45 : decode cJ6_bitCount_0f7a4 45 = .ok (.iushr, 1) := by decide +kernel
theorem dJ6_bitCount_0f7a4_46 : decode cJ6_bitCount_0f7a4 46 = .ok (.iadd, 1) := by decide +kernel
theorem dJ6_bitCount_0f7a4_47 : decode cJ6_bitCount_0f7a4 47 = .ok (.istore_n 0, 1) := by decide +kernel
theorem dJ6_bitCount_0f7a4_48 : decode cJ6_bitCount_0f7a4 48 = .ok (.iload_n 0, 1) := by decide +kernel
theorem dJ6_bitCount_0f7a4_49 : decode cJ6_bitCount_0f7a4 49 = .ok (.bipush 63, 2) := by decide +kernel
theorem dJ6_bitCount_0f7a4_51 : decode cJ6_bitCount_0f7a4 51 = .ok (.iand, 1) := by decide +kernel
theorem dJ6_bitCount_0f7a4_52 : decode cJ6_bitCount_0f7a4 52 = .ok (.ireturn, 1) := by decide +kernel
set_option maxHeartbeats 4000000 in
set_option maxRecDepth 100000 in
theorem g_J6_bitCount_0f7a4 {E : fh_E} {M : fh_M} (C : fh_Cx E M cJ6_bitCount_0f7a4 1 RJ6 ((some FieldType.int)) rm_J6_bitCount_0f7a4) (Hr : fh_Rt E M) (a1 : Int32) (σ2 : fh_S) : fh_Go E M 1 fh_vI 0 [(0, .int a1)] [] σ2 (f_J6_bitCount_0f7a4 a1 σ2) := by
  have hok := fh_cok C
  refine go_iload_n C 0 rfl rfl dJ6_bitCount_0f7a4_0 ?_
  refine go_iload_n C 0 rfl rfl dJ6_bitCount_0f7a4_1 ?_
  refine go_iconst C (1 : Int32) dJ6_bitCount_0f7a4_2 rfl ?_
  refine go_iushr C dJ6_bitCount_0f7a4_3 ?_
  refine go_ldcw C q_309 dJ6_bitCount_0f7a4_4 ?_
  refine go_iand C dJ6_bitCount_0f7a4_7 ?_
  refine go_isub C dJ6_bitCount_0f7a4_8 ?_
  refine go_istore_n C [(0, .int (a1 - (((a1.toUInt32 >>> (((1 : Int32)).toUInt32 &&& Int32.toUInt32 31)).toInt32) &&& ((1431655765 : Int32)))))] rfl rfl (by decide) dJ6_bitCount_0f7a4_9 ?_
  refine go_iload_n C 0 rfl rfl dJ6_bitCount_0f7a4_10 ?_
  refine go_ldcw C q_310 dJ6_bitCount_0f7a4_11 ?_
  refine go_iand C dJ6_bitCount_0f7a4_14 ?_
  refine go_iload_n C 0 rfl rfl dJ6_bitCount_0f7a4_15 ?_
  refine go_iconst C (2 : Int32) dJ6_bitCount_0f7a4_16 rfl ?_
  refine go_iushr C dJ6_bitCount_0f7a4_17 ?_
  refine go_ldcw C q_310 dJ6_bitCount_0f7a4_18 ?_
  refine go_iand C dJ6_bitCount_0f7a4_21 ?_
  refine go_iadd C dJ6_bitCount_0f7a4_22 ?_
  refine go_istore_n C [(0, .int (((a1 - (((a1.toUInt32 >>> (((1 : Int32)).toUInt32 &&& Int32.toUInt32 31)).toInt32) &&& ((1431655765 : Int32)))) &&& ((858993459 : Int32))) + ((((a1 - (((a1.toUInt32 >>> (((1 : Int32)).toUInt32 &&& Int32.toUInt32 31)).toInt32) &&& ((1431655765 : Int32)))).toUInt32 >>> (((2 : Int32)).toUInt32 &&& Int32.toUInt32 31)).toInt32) &&& ((858993459 : Int32)))))] rfl rfl (by decide) dJ6_bitCount_0f7a4_23 ?_
  refine go_iload_n C 0 rfl rfl dJ6_bitCount_0f7a4_24 ?_
  refine go_iload_n C 0 rfl rfl dJ6_bitCount_0f7a4_25 ?_
  refine go_iconst C (4 : Int32) dJ6_bitCount_0f7a4_26 rfl ?_
  refine go_iushr C dJ6_bitCount_0f7a4_27 ?_
  refine go_iadd C dJ6_bitCount_0f7a4_28 ?_
  refine go_ldcw C q_311 dJ6_bitCount_0f7a4_29 ?_
  refine go_iand C dJ6_bitCount_0f7a4_32 ?_
  refine go_istore_n C [(0, .int (((((a1 - (((a1.toUInt32 >>> (((1 : Int32)).toUInt32 &&& Int32.toUInt32 31)).toInt32) &&& ((1431655765 : Int32)))) &&& ((858993459 : Int32))) + ((((a1 - (((a1.toUInt32 >>> (((1 : Int32)).toUInt32 &&& Int32.toUInt32 31)).toInt32) &&& ((1431655765 : Int32)))).toUInt32 >>> (((2 : Int32)).toUInt32 &&& Int32.toUInt32 31)).toInt32) &&& ((858993459 : Int32)))) + (((((a1 - (((a1.toUInt32 >>> (((1 : Int32)).toUInt32 &&& Int32.toUInt32 31)).toInt32) &&& ((1431655765 : Int32)))) &&& ((858993459 : Int32))) + ((((a1 - (((a1.toUInt32 >>> (((1 : Int32)).toUInt32 &&& Int32.toUInt32 31)).toInt32) &&& ((1431655765 : Int32)))).toUInt32 >>> (((2 : Int32)).toUInt32 &&& Int32.toUInt32 31)).toInt32) &&& ((858993459 : Int32)))).toUInt32 >>> (((4 : Int32)).toUInt32 &&& Int32.toUInt32 31)).toInt32)) &&& ((252645135 : Int32))))] rfl rfl (by decide) dJ6_bitCount_0f7a4_33 ?_
  refine go_iload_n C 0 rfl rfl dJ6_bitCount_0f7a4_34 ?_
  refine go_iload_n C 0 rfl rfl dJ6_bitCount_0f7a4_35 ?_
  refine go_bipush C (8 : Int32) dJ6_bitCount_0f7a4_36 rfl ?_
  refine go_iushr C dJ6_bitCount_0f7a4_38 ?_
  refine go_iadd C dJ6_bitCount_0f7a4_39 ?_
  refine go_istore_n C [(0, .int ((((((a1 - (((a1.toUInt32 >>> (((1 : Int32)).toUInt32 &&& Int32.toUInt32 31)).toInt32) &&& ((1431655765 : Int32)))) &&& ((858993459 : Int32))) + ((((a1 - (((a1.toUInt32 >>> (((1 : Int32)).toUInt32 &&& Int32.toUInt32 31)).toInt32) &&& ((1431655765 : Int32)))).toUInt32 >>> (((2 : Int32)).toUInt32 &&& Int32.toUInt32 31)).toInt32) &&& ((858993459 : Int32)))) + (((((a1 - (((a1.toUInt32 >>> (((1 : Int32)).toUInt32 &&& Int32.toUInt32 31)).toInt32) &&& ((1431655765 : Int32)))) &&& ((858993459 : Int32))) + ((((a1 - (((a1.toUInt32 >>> (((1 : Int32)).toUInt32 &&& Int32.toUInt32 31)).toInt32) &&& ((1431655765 : Int32)))).toUInt32 >>> (((2 : Int32)).toUInt32 &&& Int32.toUInt32 31)).toInt32) &&& ((858993459 : Int32)))).toUInt32 >>> (((4 : Int32)).toUInt32 &&& Int32.toUInt32 31)).toInt32)) &&& ((252645135 : Int32))) + (((((((a1 - (((a1.toUInt32 >>> (((1 : Int32)).toUInt32 &&& Int32.toUInt32 31)).toInt32) &&& ((1431655765 : Int32)))) &&& ((858993459 : Int32))) + ((((a1 - (((a1.toUInt32 >>> (((1 : Int32)).toUInt32 &&& Int32.toUInt32 31)).toInt32) &&& ((1431655765 : Int32)))).toUInt32 >>> (((2 : Int32)).toUInt32 &&& Int32.toUInt32 31)).toInt32) &&& ((858993459 : Int32)))) + (((((a1 - (((a1.toUInt32 >>> (((1 : Int32)).toUInt32 &&& Int32.toUInt32 31)).toInt32) &&& ((1431655765 : Int32)))) &&& ((858993459 : Int32))) + ((((a1 - (((a1.toUInt32 >>> (((1 : Int32)).toUInt32 &&& Int32.toUInt32 31)).toInt32) &&& ((1431655765 : Int32)))).toUInt32 >>> (((2 : Int32)).toUInt32 &&& Int32.toUInt32 31)).toInt32) &&& ((858993459 : Int32)))).toUInt32 >>> (((4 : Int32)).toUInt32 &&& Int32.toUInt32 31)).toInt32)) &&& ((252645135 : Int32))).toUInt32 >>> (((8 : Int32)).toUInt32 &&& Int32.toUInt32 31)).toInt32)))] rfl rfl (by decide) dJ6_bitCount_0f7a4_40 ?_
  refine go_iload_n C 0 rfl rfl dJ6_bitCount_0f7a4_41 ?_
  refine go_iload_n C 0 rfl rfl dJ6_bitCount_0f7a4_42 ?_
  refine go_bipush C (16 : Int32) dJ6_bitCount_0f7a4_43 rfl ?_
  refine go_iushr C dJ6_bitCount_0f7a4_45 ?_
  refine go_iadd C dJ6_bitCount_0f7a4_46 ?_
  refine go_istore_n C [(0, .int (((((((a1 - (((a1.toUInt32 >>> (((1 : Int32)).toUInt32 &&& Int32.toUInt32 31)).toInt32) &&& ((1431655765 : Int32)))) &&& ((858993459 : Int32))) + ((((a1 - (((a1.toUInt32 >>> (((1 : Int32)).toUInt32 &&& Int32.toUInt32 31)).toInt32) &&& ((1431655765 : Int32)))).toUInt32 >>> (((2 : Int32)).toUInt32 &&& Int32.toUInt32 31)).toInt32) &&& ((858993459 : Int32)))) + (((((a1 - (((a1.toUInt32 >>> (((1 : Int32)).toUInt32 &&& Int32.toUInt32 31)).toInt32) &&& ((1431655765 : Int32)))) &&& ((858993459 : Int32))) + ((((a1 - (((a1.toUInt32 >>> (((1 : Int32)).toUInt32 &&& Int32.toUInt32 31)).toInt32) &&& ((1431655765 : Int32)))).toUInt32 >>> (((2 : Int32)).toUInt32 &&& Int32.toUInt32 31)).toInt32) &&& ((858993459 : Int32)))).toUInt32 >>> (((4 : Int32)).toUInt32 &&& Int32.toUInt32 31)).toInt32)) &&& ((252645135 : Int32))) + (((((((a1 - (((a1.toUInt32 >>> (((1 : Int32)).toUInt32 &&& Int32.toUInt32 31)).toInt32) &&& ((1431655765 : Int32)))) &&& ((858993459 : Int32))) + ((((a1 - (((a1.toUInt32 >>> (((1 : Int32)).toUInt32 &&& Int32.toUInt32 31)).toInt32) &&& ((1431655765 : Int32)))).toUInt32 >>> (((2 : Int32)).toUInt32 &&& Int32.toUInt32 31)).toInt32) &&& ((858993459 : Int32)))) + (((((a1 - (((a1.toUInt32 >>> (((1 : Int32)).toUInt32 &&& Int32.toUInt32 31)).toInt32) &&& ((1431655765 : Int32)))) &&& ((858993459 : Int32))) + ((((a1 - (((a1.toUInt32 >>> (((1 : Int32)).toUInt32 &&& Int32.toUInt32 31)).toInt32) &&& ((1431655765 : Int32)))).toUInt32 >>> (((2 : Int32)).toUInt32 &&& Int32.toUInt32 31)).toInt32) &&& ((858993459 : Int32)))).toUInt32 >>> (((4 : Int32)).toUInt32 &&& Int32.toUInt32 31)).toInt32)) &&& ((252645135 : Int32))).toUInt32 >>> (((8 : Int32)).toUInt32 &&& Int32.toUInt32 31)).toInt32)) + ((((((((a1 - (((a1.toUInt32 >>> (((1 : Int32)).toUInt32 &&& Int32.toUInt32 31)).toInt32) &&& ((1431655765 : Int32)))) &&& ((858993459 : Int32))) + ((((a1 - (((a1.toUInt32 >>> (((1 : Int32)).toUInt32 &&& Int32.toUInt32 31)).toInt32) &&& ((1431655765 : Int32)))).toUInt32 >>> (((2 : Int32)).toUInt32 &&& Int32.toUInt32 31)).toInt32) &&& ((858993459 : Int32)))) + (((((a1 - (((a1.toUInt32 >>> (((1 : Int32)).toUInt32 &&& Int32.toUInt32 31)).toInt32) &&& ((1431655765 : Int32)))) &&& ((858993459 : Int32))) + ((((a1 - (((a1.toUInt32 >>> (((1 : Int32)).toUInt32 &&& Int32.toUInt32 31)).toInt32) &&& ((1431655765 : Int32)))).toUInt32 >>> (((2 : Int32)).toUInt32 &&& Int32.toUInt32 31)).toInt32) &&& ((858993459 : Int32)))).toUInt32 >>> (((4 : Int32)).toUInt32 &&& Int32.toUInt32 31)).toInt32)) &&& ((252645135 : Int32))) + (((((((a1 - (((a1.toUInt32 >>> (((1 : Int32)).toUInt32 &&& Int32.toUInt32 31)).toInt32) &&& ((1431655765 : Int32)))) &&& ((858993459 : Int32))) + ((((a1 - (((a1.toUInt32 >>> (((1 : Int32)).toUInt32 &&& Int32.toUInt32 31)).toInt32) &&& ((1431655765 : Int32)))).toUInt32 >>> (((2 : Int32)).toUInt32 &&& Int32.toUInt32 31)).toInt32) &&& ((858993459 : Int32)))) + (((((a1 - (((a1.toUInt32 >>> (((1 : Int32)).toUInt32 &&& Int32.toUInt32 31)).toInt32) &&& ((1431655765 : Int32)))) &&& ((858993459 : Int32))) + ((((a1 - (((a1.toUInt32 >>> (((1 : Int32)).toUInt32 &&& Int32.toUInt32 31)).toInt32) &&& ((1431655765 : Int32)))).toUInt32 >>> (((2 : Int32)).toUInt32 &&& Int32.toUInt32 31)).toInt32) &&& ((858993459 : Int32)))).toUInt32 >>> (((4 : Int32)).toUInt32 &&& Int32.toUInt32 31)).toInt32)) &&& ((252645135 : Int32))).toUInt32 >>> (((8 : Int32)).toUInt32 &&& Int32.toUInt32 31)).toInt32)).toUInt32 >>> (((16 : Int32)).toUInt32 &&& Int32.toUInt32 31)).toInt32)))] rfl rfl (by decide) dJ6_bitCount_0f7a4_47 ?_
  refine go_iload_n C 0 rfl rfl dJ6_bitCount_0f7a4_48 ?_
  refine go_bipush C (63 : Int32) dJ6_bitCount_0f7a4_49 rfl ?_
  refine go_iand C dJ6_bitCount_0f7a4_51 ?_
  exact go_iret C Hr rfl dJ6_bitCount_0f7a4_52
theorem m_J6_bitCount_0f7a4 (E : fh_E) (l : Launch) (hok : fh_ok E) (a1 : Int32) (σ2 : fh_S) : fh_Met E l yJ6_bitCount_0f7a4 cJ6_bitCount_0f7a4 1 ((some FieldType.int)) rm_J6_bitCount_0f7a4 fh_vI [.int a1] σ2 (f_J6_bitCount_0f7a4 a1 σ2) := fh_met hok (by decide +kernel) (Nat.le_of_ble_eq_true rfl) (fun M _ C Hr => g_J6_bitCount_0f7a4 C Hr a1 σ2)
def f_X0_alikeSet_J74 (r7 : Int32 → Int32 → Int32 → fh_S → Option (Int32 × fh_S)) (x5 : Int32) : Int32 → Int32 → fh_S → Option (Int32 × fh_S) := fun x18 x19 σ20 => r7 x18 x19 (x5 + 1) σ20
def f_X0_alikeSet_J64 (k1 : Nat) (x5 : Int32) (j21 : Int32 → Int32 → fh_S → Option (Int32 × fh_S)) (r13 : Int32) : fh_S → Option (Int32 × fh_S) := fun σ22 => (fh_gr 0 k1 1).bind fun k23 => (fh_ld σ22 k23 x5).bind fun v24 => j21 r13 v24 σ22
def f_X0_alikeSet_B8 (k1 : Nat) (r7 : Int32 → Int32 → Int32 → fh_S → Option (Int32 × fh_S)) : Int32 → Int32 → Int32 → fh_S → Option (Int32 × fh_S) := fun x3 x4 x5 σ6 => (fh_gi σ6 0 k1 9).bind fun v8 => if v8 ≤ x5 then some (x3, σ6) else (fh_gr 0 k1 1).bind fun k9 => (fh_gr 0 k1 1).bind fun k10 => (fh_ld σ6 k10 x5).bind fun v11 => fh_cb (f_X0_setWhere k1 k9 v11 σ6) fun r13 σ12 => fh_cb (f_J6_bitCount_0f7a4 r13 σ12) fun r15 σ14 => fh_cb (f_J6_bitCount_0f7a4 x3 σ14) fun r17 σ16 => fh_jn (f_X0_alikeSet_J74 r7 x5) (fun j21 => fh_jn (f_X0_alikeSet_J64 k1 x5 j21 r13) (fun j25 => if 0 < (r15 - r17) then j25 σ16 else if (r15 - r17) = 0 then (fh_gr 0 k1 1).bind fun k26 => (fh_ld σ16 k26 x5).bind fun v27 => if x4 ≤ v27 then j21 x3 x4 σ16 else j25 σ16 else j21 x3 x4 σ16))
def f_X0_alikeSet (k1 : Nat) (σ2 : fh_S) : Option (Int32 × fh_S) := fh_ob 0 k1 (fh_fx (ρ := Int32 → Int32 → Int32 → fh_S → Option (Int32 × fh_S)) (fun _ _ _ _ => none) (f_X0_alikeSet_B8 k1) fh_fu ((0 : Int32)) ((720 : Int32)) ((0 : Int32)) σ2)
abbrev rm_X0_alikeSet : Room := { frames := 1, cells := 0, slots := 0, locals := 24 }
theorem pd_X0_alikeSet : yX0_alikeSet.cls ≠ "java/lang/invoke/MethodHandle" ∧ yX0_alikeSet.cls ≠ "java/lang/invoke/VarHandle" ∧ (parseMethodDescriptor yX0_alikeSet.desc).map (fun d => d.parameters.length) = some 0 := by decide +kernel
theorem dX0_alikeSet_0 : decode cX0_alikeSet 0 = .ok (.iconst 0, 1) := by decide +kernel
theorem dX0_alikeSet_1 : decode cX0_alikeSet 1 = .ok (.istore_n 1, 1) := by decide +kernel
theorem dX0_alikeSet_2 : decode cX0_alikeSet 2 = .ok (.sipush 720, 3) := by decide +kernel
theorem dX0_alikeSet_5 : decode cX0_alikeSet 5 = .ok (.istore_n 2, 1) := by decide +kernel
theorem dX0_alikeSet_6 : decode cX0_alikeSet 6 = .ok (.iconst 0, 1) := by decide +kernel
theorem dX0_alikeSet_7 : decode cX0_alikeSet 7 = .ok (.istore_n 3, 1) := by decide +kernel
theorem dX0_alikeSet_8 : decode cX0_alikeSet 8 = .ok (.iload_n 3, 1) := by decide +kernel
theorem dX0_alikeSet_9 : decode cX0_alikeSet 9 = .ok (.aload_n 0, 1) := by decide +kernel
theorem dX0_alikeSet_10 : decode cX0_alikeSet 10 = .ok (.getfield 39, 3) := by decide +kernel
theorem dX0_alikeSet_13 : decode cX0_alikeSet 13 = .ok (.if_icmp .ge 67, 3) := by decide +kernel
theorem dX0_alikeSet_16 : decode cX0_alikeSet 16 = .ok (.aload_n 0, 1) := by decide +kernel
theorem dX0_alikeSet_17 : decode cX0_alikeSet 17 = .ok (.aload_n 0, 1) := by decide +kernel
theorem dX0_alikeSet_18 : decode cX0_alikeSet 18 = .ok (.getfield 15, 3) := by decide +kernel
theorem dX0_alikeSet_21 : decode cX0_alikeSet 21 = .ok (.aload_n 0, 1) := by decide +kernel
theorem dX0_alikeSet_22 : decode cX0_alikeSet 22 = .ok (.getfield 15, 3) := by decide +kernel
theorem dX0_alikeSet_25 : decode cX0_alikeSet 25 = .ok (.iload_n 3, 1) := by decide +kernel
theorem dX0_alikeSet_26 : decode cX0_alikeSet 26 = .ok (.iaload, 1) := by decide +kernel
theorem dX0_alikeSet_27 : decode cX0_alikeSet 27 = .ok (.invokevirtual 110, 3) := by decide +kernel
theorem dX0_alikeSet_30 : decode cX0_alikeSet 30 = .ok (.istore 4, 2) := by decide +kernel
theorem dX0_alikeSet_32 : decode cX0_alikeSet 32 = .ok (.iload 4, 2) := by decide +kernel
theorem dX0_alikeSet_34 : decode cX0_alikeSet 34 = .ok (.invokestatic 114, 3) := by decide +kernel
theorem dX0_alikeSet_37 : decode cX0_alikeSet 37 = .ok (.iload_n 1, 1) := by decide +kernel
theorem dX0_alikeSet_38 : decode cX0_alikeSet 38 = .ok (.invokestatic 114, 3) := by decide +kernel
theorem dX0_alikeSet_41 : decode cX0_alikeSet 41 = .ok (.isub, 1) := by decide +kernel
theorem dX0_alikeSet_42 : decode cX0_alikeSet 42 = .ok (.istore 5, 2) := by decide +kernel
theorem dX0_alikeSet_44 : decode cX0_alikeSet 44 = .ok (.iload 5, 2) := by decide +kernel
theorem dX0_alikeSet_46 : decode cX0_alikeSet 46 = .ok (.ifCond .gt 18, 3) := by decide +kernel
theorem dX0_alikeSet_49 : decode cX0_alikeSet 49 = .ok (.iload 5, 2) := by decide +kernel
theorem dX0_alikeSet_51 : decode cX0_alikeSet 51 = .ok (.ifCond .ne 23, 3) := by decide +kernel
theorem dX0_alikeSet_54 : decode cX0_alikeSet 54 = .ok (.aload_n 0, 1) := by decide +kernel
theorem dX0_alikeSet_55 : decode cX0_alikeSet 55 = .ok (.getfield 15, 3) := by decide +kernel
theorem dX0_alikeSet_58 : decode cX0_alikeSet 58 = .ok (.iload_n 3, 1) := by decide +kernel
theorem dX0_alikeSet_59 : decode cX0_alikeSet 59 = .ok (.iaload, 1) := by decide +kernel
theorem dX0_alikeSet_60 : decode cX0_alikeSet 60 = .ok (.iload_n 2, 1) := by decide +kernel
theorem dX0_alikeSet_61 : decode cX0_alikeSet 61 = .ok (.if_icmp .ge 13, 3) := by decide +kernel
theorem dX0_alikeSet_64 : decode cX0_alikeSet 64 = .ok (.iload 4, 2) := by decide +kernel
theorem dX0_alikeSet_66 : decode cX0_alikeSet 66 = .ok (.istore_n 1, 1) := by decide +kernel
theorem dX0_alikeSet_67 : decode cX0_alikeSet 67 = .ok (.aload_n 0, 1) := by decide +kernel
theorem dX0_alikeSet_68 : decode cX0_alikeSet 68 = .ok (.getfield 15, 3) := by decide +kernel
theorem dX0_alikeSet_71 : decode cX0_alikeSet 71 = .ok (.iload_n 3, 1) := by decide +kernel
theorem dX0_alikeSet_72 : decode cX0_alikeSet 72 = .ok (.iaload, 1) := by decide +kernel
theorem dX0_alikeSet_73 : decode cX0_alikeSet 73 = .ok (.istore_n 2, 1) := by decide +kernel
theorem dX0_alikeSet_74 : decode cX0_alikeSet 74 = .ok (.iinc 3 1, 3) := by decide +kernel
theorem dX0_alikeSet_77 : decode cX0_alikeSet 77 = .ok (.goto (-69), 3) := by decide +kernel
theorem dX0_alikeSet_80 : decode cX0_alikeSet 80 = .ok (.iload_n 1, 1) := by decide +kernel
theorem dX0_alikeSet_81 : decode cX0_alikeSet 81 = .ok (.ireturn, 1) := by decide +kernel
set_option maxHeartbeats 4000000 in
set_option maxRecDepth 100000 in
theorem g_X0_alikeSet {E : fh_E} {M : fh_M} (C : fh_Cx E M cX0_alikeSet 6 RX0 ((some FieldType.int)) rm_X0_alikeSet) (Hr : fh_Rt E M) (k1 : Nat) (σ2 : fh_S) : fh_Go E M 6 fh_vI 0 [(0, .ref (fh_ad E k1))] [] σ2 (f_X0_alikeSet k1 σ2) := by
  have hok := fh_cok C
  refine go_ob ?_
  refine go_iconst C (0 : Int32) dX0_alikeSet_0 rfl ?_
  refine go_istore_n C [(1, .int ((0 : Int32))), (0, .ref (fh_ad E k1))] rfl rfl (by decide) dX0_alikeSet_1 ?_
  refine go_sipush C (720 : Int32) dX0_alikeSet_2 rfl ?_
  refine go_istore_n C [(2, .int ((720 : Int32))), (1, .int ((0 : Int32))), (0, .ref (fh_ad E k1))] rfl rfl (by decide) dX0_alikeSet_5 ?_
  refine go_iconst C (0 : Int32) dX0_alikeSet_6 rfl ?_
  refine go_istore_n C [(3, .int ((0 : Int32))), (2, .int ((720 : Int32))), (1, .int ((0 : Int32))), (0, .ref (fh_ad E k1))] rfl rfl (by decide) dX0_alikeSet_7 ?_
  refine go_lv [3, 2, 1, 0] (lv' := [(0, .ref (fh_ad E k1)), (1, .int ((0 : Int32))), (2, .int ((720 : Int32))), (3, .int ((0 : Int32)))]) rfl ?_
  refine go_fx (fun (r7 : Int32 → Int32 → Int32 → fh_S → Option (Int32 × fh_S)) => ∀ (x3 : Int32) (x4 : Int32) (x5 : Int32) (σ6 : fh_S), fh_Go E M 6 fh_vI 8 [(0, .ref (fh_ad E k1)), (1, .int x3), (2, .int x4), (3, .int x5)] [] σ6 (r7 x3 x4 x5 σ6)) ?_ ?_ fh_fu ((0 : Int32)) ((720 : Int32)) ((0 : Int32)) σ2
  · intro x3 x4 x5 σ6
    exact go_none
  · intro r7 hr7 x3 x4 x5 σ6
    refine go_iload_n C 3 rfl rfl dX0_alikeSet_8 ?_
    refine go_aload_n C 0 rfl rfl dX0_alikeSet_9 ?_
    refine go_gi (ci := 0) (j := 9) C fh_in0 rfl (by decide) rfl q_46 dX0_alikeSet_10 (fun v8 => ?_)
    refine go_icmp_ge (tgt := 80) C dX0_alikeSet_13 rfl (fun _ => ?_) (fun _ => ?_)
    · refine go_iload_n C 1 rfl rfl dX0_alikeSet_80 ?_
      exact go_iret C Hr rfl dX0_alikeSet_81
    · refine go_aload_n C 0 rfl rfl dX0_alikeSet_16 ?_
      refine go_aload_n C 0 rfl rfl dX0_alikeSet_17 ?_
      refine go_gr (ci := 0) (j := 1) C fh_in0 rfl (by decide) rfl q_30 dX0_alikeSet_18 (fun k9 => ?_)
      refine go_aload_n C 0 rfl rfl dX0_alikeSet_21 ?_
      refine go_gr (ci := 0) (j := 1) C fh_in0 rfl (by decide) rfl q_30 dX0_alikeSet_22 (fun k10 => ?_)
      refine go_iload_n C 3 rfl rfl dX0_alikeSet_25 ?_
      refine go_iald C dX0_alikeSet_26 (fun v11 => ?_)
      refine go_callVI C (st := []) [.ref (fh_ad E k9), .int v11] (m_X0_setWhere E _ hok k1 k9 v11 σ6) (fun _ h => fh_ob_ok h) rfl rfl ⟨q_286, q_288, qs_2, q_2, q_289⟩ pd_X0_setWhere rfl ⟨⟨Nat.le_of_ble_eq_true rfl, Nat.le_of_ble_eq_true rfl⟩, rfl, rfl⟩ (Nat.le_of_ble_eq_true rfl) dX0_alikeSet_27 (fun r13 σ12 => ?_)
      refine go_istore C [(4, .int r13), (0, .ref (fh_ad E k1)), (1, .int x3), (2, .int x4), (3, .int x5)] rfl (by decide) dX0_alikeSet_30 ?_
      refine go_iload C 0 rfl dX0_alikeSet_32 ?_
      refine go_callSI C (st := []) [.int r13] (m_J6_bitCount_0f7a4 E _ hok r13 σ12) rfl ⟨q_306, q_307, q_8, q_308⟩ pd_J6_bitCount_0f7a4 rfl ⟨⟨Nat.le_of_ble_eq_true rfl, Nat.le_of_ble_eq_true rfl⟩, rfl, rfl⟩ (Nat.le_of_ble_eq_true rfl) dX0_alikeSet_34 (fun r15 σ14 => ?_)
      refine go_iload_n C 2 rfl rfl dX0_alikeSet_37 ?_
      refine go_callSI C (st := [.int r15]) [.int x3] (m_J6_bitCount_0f7a4 E _ hok x3 σ14) rfl ⟨q_306, q_307, q_8, q_308⟩ pd_J6_bitCount_0f7a4 rfl ⟨⟨Nat.le_of_ble_eq_true rfl, Nat.le_of_ble_eq_true rfl⟩, rfl, rfl⟩ (Nat.le_of_ble_eq_true rfl) dX0_alikeSet_38 (fun r17 σ16 => ?_)
      refine go_isub C dX0_alikeSet_41 ?_
      refine go_istore C [(5, .int (r15 - r17)), (4, .int r13), (0, .ref (fh_ad E k1)), (1, .int x3), (2, .int x4), (3, .int x5)] rfl (by decide) dX0_alikeSet_42 ?_
      refine go_iload C 0 rfl dX0_alikeSet_44 ?_
      refine go_jn (fun (j21 : Int32 → Int32 → fh_S → Option (Int32 × fh_S)) => ∀ (x18 : Int32) (x19 : Int32) (σ20 : fh_S), fh_Go E M 6 fh_vI 74 [(0, .ref (fh_ad E k1)), (1, .int x18), (2, .int x19), (3, .int x5)] [] σ20 (j21 x18 x19 σ20)) ?_ (fun j21 hj21 => ?_)
      · intro x18 x19 σ20
        refine go_iinc C (x5 + 1) 3 [(3, .int (x5 + 1)), (0, .ref (fh_ad E k1)), (1, .int x18), (2, .int x19)] rfl rfl rfl (by decide) dX0_alikeSet_74 ?_
        refine go_goto C 8 dX0_alikeSet_77 rfl ?_
        refine go_lv [1, 2, 3, 0] (lv' := [(0, .ref (fh_ad E k1)), (1, .int x18), (2, .int x19), (3, .int (x5 + 1))]) rfl ?_
        exact hr7 x18 x19 (x5 + 1) σ20
      refine go_jn (fun (j25 : fh_S → Option (Int32 × fh_S)) => ∀ (σ22 : fh_S), fh_Go E M 6 fh_vI 64 [(0, .ref (fh_ad E k1)), (3, .int x5), (4, .int r13)] [] σ22 (j25 σ22)) ?_ (fun j25 hj25 => ?_)
      · intro σ22
        refine go_iload C 2 rfl dX0_alikeSet_64 ?_
        refine go_istore_n C [(1, .int r13), (0, .ref (fh_ad E k1)), (3, .int x5), (4, .int r13)] rfl rfl (by decide) dX0_alikeSet_66 ?_
        refine go_aload_n C 1 rfl rfl dX0_alikeSet_67 ?_
        refine go_gr (ci := 0) (j := 1) C fh_in0 rfl (by decide) rfl q_30 dX0_alikeSet_68 (fun k23 => ?_)
        refine go_iload_n C 2 rfl rfl dX0_alikeSet_71 ?_
        refine go_iald C dX0_alikeSet_72 (fun v24 => ?_)
        refine go_istore_n C [(2, .int v24), (1, .int r13), (0, .ref (fh_ad E k1)), (3, .int x5), (4, .int r13)] rfl rfl (by decide) dX0_alikeSet_73 ?_
        refine go_lv [2, 1, 0, 3] (lv' := [(0, .ref (fh_ad E k1)), (1, .int r13), (2, .int v24), (3, .int x5)]) rfl ?_
        exact hj21 r13 v24 σ22
      refine go_if_gt (tgt := 64) C dX0_alikeSet_46 rfl (fun _ => ?_) (fun _ => ?_)
      · refine go_lv [2, 5, 1] (lv' := [(0, .ref (fh_ad E k1)), (3, .int x5), (4, .int r13)]) rfl ?_
        exact hj25 σ16
      · refine go_iload C 0 rfl dX0_alikeSet_49 ?_
        refine go_if_ne (tgt := 74) C dX0_alikeSet_51 rfl (fun _ => ?_) (fun _ => ?_)
        · refine go_lv [2, 3, 4, 5] (lv' := [(0, .ref (fh_ad E k1)), (1, .int x3), (2, .int x4), (3, .int x5)]) rfl ?_
          exact hj21 x3 x4 σ16
        · refine go_aload_n C 2 rfl rfl dX0_alikeSet_54 ?_
          refine go_gr (ci := 0) (j := 1) C fh_in0 rfl (by decide) rfl q_30 dX0_alikeSet_55 (fun k26 => ?_)
          refine go_iload_n C 5 rfl rfl dX0_alikeSet_58 ?_
          refine go_iald C dX0_alikeSet_59 (fun v27 => ?_)
          refine go_iload_n C 4 rfl rfl dX0_alikeSet_60 ?_
          refine go_icmp_ge (tgt := 74) C dX0_alikeSet_61 rfl (fun _ => ?_) (fun _ => ?_)
          · refine go_lv [2, 3, 4, 5] (lv' := [(0, .ref (fh_ad E k1)), (1, .int x3), (2, .int x4), (3, .int x5)]) rfl ?_
            exact hj21 x3 x4 σ16
          · refine go_lv [2, 5, 1] (lv' := [(0, .ref (fh_ad E k1)), (3, .int x5), (4, .int r13)]) rfl ?_
            exact hj25 σ16
theorem m_X0_alikeSet (E : fh_E) (l : Launch) (hok : fh_ok E) (k1 : Nat) (σ2 : fh_S) : fh_Met E l yX0_alikeSet cX0_alikeSet 6 ((some FieldType.int)) rm_X0_alikeSet fh_vI [.ref (fh_ad E k1)] σ2 (f_X0_alikeSet k1 σ2) := fh_met hok (by decide +kernel) (Nat.le_of_ble_eq_true rfl) (fun M _ C Hr => g_X0_alikeSet C Hr k1 σ2)
