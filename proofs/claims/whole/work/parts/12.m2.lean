def f_X2_isMissing (k1 : Nat) (σ2 : fh_S) : Option (Int32 × fh_S) := fh_ob 2 k1 ((fh_gi σ2 2 k1 1).bind fun v3 => if v3 = 0 then fh_rz ((1 : Int32)) σ2 else fh_rz ((0 : Int32)) σ2)
abbrev rm_X2_isMissing : Room := { frames := 0, cells := 0, slots := 0, locals := 0 }
theorem pd_X2_isMissing : yX2_isMissing.cls ≠ "java/lang/invoke/MethodHandle" ∧ yX2_isMissing.cls ≠ "java/lang/invoke/VarHandle" ∧ (parseMethodDescriptor yX2_isMissing.desc).map (fun d => d.parameters.length) = some 0 := by decide +kernel
theorem dX2_isMissing_0 : decode cX2_isMissing 0 = .ok (.aload_n 0, 1) := by decide +kernel
theorem dX2_isMissing_1 : decode cX2_isMissing 1 = .ok (.getfield 15, 3) := by decide +kernel
theorem dX2_isMissing_4 : decode cX2_isMissing 4 = .ok (.ifCond .ne 7, 3) := by decide +kernel
theorem dX2_isMissing_7 : decode cX2_isMissing 7 = .ok (.iconst 1, 1) := by decide +kernel
theorem dX2_isMissing_8 : decode cX2_isMissing 8 = .ok (.goto 4, 3) := by decide +kernel
theorem dX2_isMissing_11 : decode cX2_isMissing 11 = .ok (.iconst 0, 1) := by decide +kernel
theorem dX2_isMissing_12 : decode cX2_isMissing 12 = .ok (.ireturn, 1) := by decide +kernel
set_option maxHeartbeats 4000000 in
set_option maxRecDepth 100000 in
theorem g_X2_isMissing {E : fh_E} {M : fh_M} (C : fh_Cx E M cX2_isMissing 1 RX2 ((some FieldType.boolean)) rm_X2_isMissing) (Hr : fh_Rt E M) (k1 : Nat) (σ2 : fh_S) : fh_Go E M 1 fh_vI 0 [(0, .ref (fh_ad E k1))] [] σ2 (f_X2_isMissing k1 σ2) := by
  have hok := fh_cok C
  refine go_ob ?_
  refine go_aload_n C 0 rfl rfl dX2_isMissing_0 ?_
  refine go_gi (ci := 2) (j := 1) C fh_in2 rfl (by decide) rfl q_127 dX2_isMissing_1 (fun v3 => ?_)
  refine go_if_ne (tgt := 11) C dX2_isMissing_4 rfl (fun _ => ?_) (fun _ => ?_)
  · refine go_iconst C (0 : Int32) dX2_isMissing_11 rfl ?_
    exact go_zret C Hr dX2_isMissing_12
  · refine go_iconst C (1 : Int32) dX2_isMissing_7 rfl ?_
    refine go_goto C 12 dX2_isMissing_8 rfl ?_
    exact go_zret C Hr dX2_isMissing_12
theorem m_X2_isMissing (E : fh_E) (l : Launch) (hok : fh_ok E) (k1 : Nat) (σ2 : fh_S) : fh_Met E l yX2_isMissing cX2_isMissing 1 ((some FieldType.boolean)) rm_X2_isMissing fh_vI [.ref (fh_ad E k1)] σ2 (f_X2_isMissing k1 σ2) := fh_met hok (by decide +kernel) (Nat.le_of_ble_eq_true rfl) (fun M _ C Hr => g_X2_isMissing C Hr k1 σ2)
def f_X2_layOut_B20 (k1 : Nat) (r11 : Int32 → fh_S → Option (Unit × fh_S)) : Int32 → fh_S → Option (Unit × fh_S) := fun x9 σ10 => if ((40 : Int32)) ≤ x9 then some ((), σ10) else (fh_gr 2 k1 0).bind fun k12 => (fh_st σ10 k12 x9 ((0 : Int32))).bind fun σ13 => r11 (x9 + 1) σ13
def f_X2_layOut_J15 (k1 : Nat) : Int32 → fh_S → Option (Unit × fh_S) := fun x6 σ7 => (fh_pf σ7 2 k1 2 x6).bind fun σ8 => fh_fx (ρ := Int32 → fh_S → Option (Unit × fh_S)) (fun _ _ => none) (f_X2_layOut_B20 k1) fh_fu ((0 : Int32)) σ8
def f_X2_layOut (k1 : Nat) (a2 : Int32) (a3 : Int32) (σ4 : fh_S) : Option (Unit × fh_S) := fh_ob 2 k1 ((fh_pf σ4 2 k1 1 a2).bind fun σ5 => fh_jn (f_X2_layOut_J15 k1) (fun j14 => if a2 = 0 then j14 ((0 : Int32)) σ5 else j14 a3 σ5))
abbrev rm_X2_layOut : Room := { frames := 0, cells := 0, slots := 0, locals := 0 }
theorem pd_X2_layOut : yX2_layOut.cls ≠ "java/lang/invoke/MethodHandle" ∧ yX2_layOut.cls ≠ "java/lang/invoke/VarHandle" ∧ (parseMethodDescriptor yX2_layOut.desc).map (fun d => d.parameters.length) = some 2 := by decide +kernel
theorem dX2_layOut_0 : decode cX2_layOut 0 = .ok (.aload_n 0, 1) := by decide +kernel
theorem dX2_layOut_1 : decode cX2_layOut 1 = .ok (.iload_n 1, 1) := by decide +kernel
theorem dX2_layOut_2 : decode cX2_layOut 2 = .ok (.putfield 15, 3) := by decide +kernel
theorem dX2_layOut_5 : decode cX2_layOut 5 = .ok (.aload_n 0, 1) := by decide +kernel
theorem dX2_layOut_6 : decode cX2_layOut 6 = .ok (.iload_n 1, 1) := by decide +kernel
theorem dX2_layOut_7 : decode cX2_layOut 7 = .ok (.ifCond .ne 7, 3) := by decide +kernel
theorem dX2_layOut_10 : decode cX2_layOut 10 = .ok (.iconst 0, 1) := by decide +kernel
theorem dX2_layOut_11 : decode cX2_layOut 11 = .ok (.goto 4, 3) := by decide +kernel
theorem dX2_layOut_14 : decode cX2_layOut 14 = .ok (.iload_n 2, 1) := by decide +kernel
theorem dX2_layOut_15 : decode cX2_layOut 15 = .ok (.putfield 19, 3) := by decide +kernel
theorem dX2_layOut_18 : decode cX2_layOut 18 = .ok (.iconst 0, 1) := by decide +kernel
theorem dX2_layOut_19 : decode cX2_layOut 19 = .ok (.istore_n 3, 1) := by decide +kernel
theorem dX2_layOut_20 : decode cX2_layOut 20 = .ok (.iload_n 3, 1) := by decide +kernel
theorem dX2_layOut_21 : decode cX2_layOut 21 = .ok (.bipush 40, 2) := by decide +kernel
theorem dX2_layOut_23 : decode cX2_layOut 23 = .ok (.if_icmp .ge 16, 3) := by decide +kernel
theorem dX2_layOut_26 : decode cX2_layOut 26 = .ok (.aload_n 0, 1) := by decide +kernel
theorem dX2_layOut_27 : decode cX2_layOut 27 = .ok (.getfield 9, 3) := by decide +kernel
theorem dX2_layOut_30 : decode cX2_layOut 30 = .ok (.iload_n 3, 1) := by decide +kernel
theorem dX2_layOut_31 : decode cX2_layOut 31 = .ok (.iconst 0, 1) := by decide +kernel
theorem dX2_layOut_32 : decode cX2_layOut 32 = .ok (.iastore, 1) := by decide +kernel
theorem dX2_layOut_33 : decode cX2_layOut 33 = .ok (.iinc 3 1, 3) := by decide +kernel
theorem dX2_layOut_36 : decode cX2_layOut 36 = .ok (.goto (-16), 3) := by decide +kernel
theorem dX2_layOut_39 : decode cX2_layOut 39 = .ok (.return_, 1) := by decide +kernel
set_option maxHeartbeats 4000000 in
set_option maxRecDepth 100000 in
theorem g_X2_layOut {E : fh_E} {M : fh_M} (C : fh_Cx E M cX2_layOut 4 RX2 (none) rm_X2_layOut) (Hr : fh_Rt E M) (k1 : Nat) (a2 : Int32) (a3 : Int32) (σ4 : fh_S) : fh_Go E M 4 fh_vU 0 [(0, .ref (fh_ad E k1)), (1, .int a2), (2, .int a3)] [] σ4 (f_X2_layOut k1 a2 a3 σ4) := by
  have hok := fh_cok C
  refine go_ob ?_
  refine go_aload_n C 0 rfl rfl dX2_layOut_0 ?_
  refine go_iload_n C 1 rfl rfl dX2_layOut_1 ?_
  refine go_pf (ci := 2) (j := 1) C tyX2 tyX2_ok nmX2 fh_in2 rfl (by decide) rfl q_127 rfl rfl dX2_layOut_2 (fun σ5 => ?_)
  refine go_aload_n C 0 rfl rfl dX2_layOut_5 ?_
  refine go_iload_n C 1 rfl rfl dX2_layOut_6 ?_
  refine go_jn (fun (j14 : Int32 → fh_S → Option (Unit × fh_S)) => ∀ (x6 : Int32) (σ7 : fh_S), fh_Go E M 4 fh_vU 15 [(0, .ref (fh_ad E k1))] [.int x6, .ref (fh_ad E k1)] σ7 (j14 x6 σ7)) ?_ (fun j14 hj14 => ?_)
  · intro x6 σ7
    refine go_pf (ci := 2) (j := 2) C tyX2 tyX2_ok nmX2 fh_in2 rfl (by decide) rfl q_129 rfl rfl dX2_layOut_15 (fun σ8 => ?_)
    refine go_iconst C (0 : Int32) dX2_layOut_18 rfl ?_
    refine go_istore_n C [(3, .int ((0 : Int32))), (0, .ref (fh_ad E k1))] rfl rfl (by decide) dX2_layOut_19 ?_
    refine go_lv [1, 0] (lv' := [(0, .ref (fh_ad E k1)), (3, .int ((0 : Int32)))]) rfl ?_
    refine go_fx (fun (r11 : Int32 → fh_S → Option (Unit × fh_S)) => ∀ (x9 : Int32) (σ10 : fh_S), fh_Go E M 4 fh_vU 20 [(0, .ref (fh_ad E k1)), (3, .int x9)] [] σ10 (r11 x9 σ10)) ?_ ?_ fh_fu ((0 : Int32)) σ8
    · intro x9 σ10
      exact go_none
    · intro r11 hr11 x9 σ10
      refine go_iload_n C 1 rfl rfl dX2_layOut_20 ?_
      refine go_bipush C (40 : Int32) dX2_layOut_21 rfl ?_
      refine go_icmp_ge (tgt := 39) C dX2_layOut_23 rfl (fun _ => ?_) (fun _ => ?_)
      · exact go_vret C Hr rfl dX2_layOut_39
      · refine go_aload_n C 0 rfl rfl dX2_layOut_26 ?_
        refine go_gr (ci := 2) (j := 0) C fh_in2 rfl (by decide) rfl q_125 dX2_layOut_27 (fun k12 => ?_)
        refine go_iload_n C 1 rfl rfl dX2_layOut_30 ?_
        refine go_iconst C (0 : Int32) dX2_layOut_31 rfl ?_
        refine go_iast C dX2_layOut_32 (fun σ13 => ?_)
        refine go_iinc C (x9 + 1) 1 [(3, .int (x9 + 1)), (0, .ref (fh_ad E k1))] rfl rfl rfl (by decide) dX2_layOut_33 ?_
        refine go_goto C 20 dX2_layOut_36 rfl ?_
        refine go_lv [1, 0] (lv' := [(0, .ref (fh_ad E k1)), (3, .int (x9 + 1))]) rfl ?_
        exact hr11 (x9 + 1) σ13
  refine go_if_ne (tgt := 14) C dX2_layOut_7 rfl (fun _ => ?_) (fun _ => ?_)
  · refine go_iload_n C 2 rfl rfl dX2_layOut_14 ?_
    refine go_lv [0] (lv' := [(0, .ref (fh_ad E k1))]) rfl ?_
    exact hj14 a3 σ5
  · refine go_iconst C (0 : Int32) dX2_layOut_10 rfl ?_
    refine go_goto C 15 dX2_layOut_11 rfl ?_
    refine go_lv [0] (lv' := [(0, .ref (fh_ad E k1))]) rfl ?_
    exact hj14 ((0 : Int32)) σ5
theorem m_X2_layOut (E : fh_E) (l : Launch) (hok : fh_ok E) (k1 : Nat) (a2 : Int32) (a3 : Int32) (σ4 : fh_S) : fh_Met E l yX2_layOut cX2_layOut 4 (none) rm_X2_layOut fh_vU [.ref (fh_ad E k1), .int a2, .int a3] σ4 (f_X2_layOut k1 a2 a3 σ4) := fh_met hok (by decide +kernel) (Nat.le_of_ble_eq_true rfl) (fun M _ C Hr => g_X2_layOut C Hr k1 a2 a3 σ4)
def f_X2_put (k1 : Nat) (a2 : Int32) (a3 : Int32) (σ4 : fh_S) : Option (Unit × fh_S) := fh_ob 2 k1 ((fh_gi σ4 2 k1 1).bind fun v5 => if v5 = (8 : Int32) then (fh_gr 2 k1 0).bind fun k6 => (fh_st σ4 k6 a2 a3.toInt8.toInt32).bind fun σ7 => some ((), σ7) else if v5 = (16 : Int32) then (fh_gr 2 k1 0).bind fun k9 => (fh_st σ4 k9 a2 a3.toInt16.toInt32).bind fun σ10 => some ((), σ10) else (fh_gr 2 k1 0).bind fun k12 => (fh_st σ4 k12 a2 a3).bind fun σ13 => some ((), σ13))
abbrev rm_X2_put : Room := { frames := 0, cells := 0, slots := 0, locals := 0 }
theorem pd_X2_put : yX2_put.cls ≠ "java/lang/invoke/MethodHandle" ∧ yX2_put.cls ≠ "java/lang/invoke/VarHandle" ∧ (parseMethodDescriptor yX2_put.desc).map (fun d => d.parameters.length) = some 2 := by decide +kernel
theorem dX2_put_0 : decode cX2_put 0 = .ok (.aload_n 0, 1) := by decide +kernel
theorem dX2_put_1 : decode cX2_put 1 = .ok (.getfield 15, 3) := by decide +kernel
theorem dX2_put_4 : decode cX2_put 4 = .ok (.lookupswitch 50 #[(8, 28), (16, 39)], 28) := by decide +kernel
theorem dX2_put_32 : decode cX2_put 32 = .ok (.aload_n 0, 1) := by decide +kernel
theorem dX2_put_33 : decode cX2_put 33 = .ok (.getfield 9, 3) := by decide +kernel
theorem dX2_put_36 : decode cX2_put 36 = .ok (.iload_n 1, 1) := by decide +kernel
theorem dX2_put_37 : decode cX2_put 37 = .ok (.iload_n 2, 1) := by decide +kernel
theorem dX2_put_38 : decode cX2_put 38 = .ok (.i2b, 1) := by decide +kernel
theorem dX2_put_39 : decode cX2_put 39 = .ok (.iastore, 1) := by decide +kernel
theorem dX2_put_40 : decode cX2_put 40 = .ok (.goto 21, 3) := by decide +kernel
theorem dX2_put_43 : decode cX2_put 43 = .ok (.aload_n 0, 1) := by decide +kernel
theorem dX2_put_44 : decode cX2_put 44 = .ok (.getfield 9, 3) := by decide +kernel
theorem dX2_put_47 : decode cX2_put 47 = .ok (.iload_n 1, 1) := by decide +kernel
theorem dX2_put_48 : decode cX2_put 48 = .ok (.iload_n 2, 1) := by decide +kernel
theorem dX2_put_49 : decode cX2_put 49 = .ok (.i2s, 1) := by decide +kernel
theorem dX2_put_50 : decode cX2_put 50 = .ok (.iastore, 1) := by decide +kernel
theorem dX2_put_51 : decode cX2_put 51 = .ok (.goto 10, 3) := by decide +kernel
theorem dX2_put_54 : decode cX2_put 54 = .ok (.aload_n 0, 1) := by decide +kernel
theorem dX2_put_55 : decode cX2_put 55 = .ok (.getfield 9, 3) := by decide +kernel
theorem dX2_put_58 : decode cX2_put 58 = .ok (.iload_n 1, 1) := by decide +kernel
theorem dX2_put_59 : decode cX2_put 59 = .ok (.iload_n 2, 1) := by decide +kernel
theorem dX2_put_60 : decode cX2_put 60 = .ok (.iastore, 1) := by decide +kernel
theorem dX2_put_61 : decode cX2_put 61 = .ok (.return_, 1) := by decide +kernel
set_option maxHeartbeats 4000000 in
set_option maxRecDepth 100000 in
theorem g_X2_put {E : fh_E} {M : fh_M} (C : fh_Cx E M cX2_put 3 RX2 (none) rm_X2_put) (Hr : fh_Rt E M) (k1 : Nat) (a2 : Int32) (a3 : Int32) (σ4 : fh_S) : fh_Go E M 3 fh_vU 0 [(0, .ref (fh_ad E k1)), (1, .int a2), (2, .int a3)] [] σ4 (f_X2_put k1 a2 a3 σ4) := by
  have hok := fh_cok C
  refine go_ob ?_
  refine go_aload_n C 0 rfl rfl dX2_put_0 ?_
  refine go_gi (ci := 2) (j := 1) C fh_in2 rfl (by decide) rfl q_127 dX2_put_1 (fun v5 => ?_)
  refine go_lk C (8 : Int32) 32 dX2_put_4 rfl rfl rfl ?_ (fun hn8 => ?_)
  · refine go_aload_n C 0 rfl rfl dX2_put_32 ?_
    refine go_gr (ci := 2) (j := 0) C fh_in2 rfl (by decide) rfl q_125 dX2_put_33 (fun k6 => ?_)
    refine go_iload_n C 1 rfl rfl dX2_put_36 ?_
    refine go_iload_n C 2 rfl rfl dX2_put_37 ?_
    refine go_i2b C dX2_put_38 ?_
    refine go_iast C dX2_put_39 (fun σ7 => ?_)
    refine go_goto C 61 dX2_put_40 rfl ?_
    exact go_vret C Hr rfl dX2_put_61
  refine go_lk C (16 : Int32) 43 dX2_put_4 rfl rfl rfl ?_ (fun hn11 => ?_)
  · refine go_aload_n C 0 rfl rfl dX2_put_43 ?_
    refine go_gr (ci := 2) (j := 0) C fh_in2 rfl (by decide) rfl q_125 dX2_put_44 (fun k9 => ?_)
    refine go_iload_n C 1 rfl rfl dX2_put_47 ?_
    refine go_iload_n C 2 rfl rfl dX2_put_48 ?_
    refine go_i2s C dX2_put_49 ?_
    refine go_iast C dX2_put_50 (fun σ10 => ?_)
    refine go_goto C 61 dX2_put_51 rfl ?_
    exact go_vret C Hr rfl dX2_put_61
  refine go_lkd (off := 50) C 54 dX2_put_4 rfl (by have hh0 := fh_ne (z := 8) hn8 (by decide); have hh1 := fh_ne (z := 16) hn11 (by decide); simp [Op.lookupswitch.offset, hh0, hh0.symm, hh1, hh1.symm]) rfl ?_
  refine go_aload_n C 0 rfl rfl dX2_put_54 ?_
  refine go_gr (ci := 2) (j := 0) C fh_in2 rfl (by decide) rfl q_125 dX2_put_55 (fun k12 => ?_)
  refine go_iload_n C 1 rfl rfl dX2_put_58 ?_
  refine go_iload_n C 2 rfl rfl dX2_put_59 ?_
  refine go_iast C dX2_put_60 (fun σ13 => ?_)
  exact go_vret C Hr rfl dX2_put_61
theorem m_X2_put (E : fh_E) (l : Launch) (hok : fh_ok E) (k1 : Nat) (a2 : Int32) (a3 : Int32) (σ4 : fh_S) : fh_Met E l yX2_put cX2_put 3 (none) rm_X2_put fh_vU [.ref (fh_ad E k1), .int a2, .int a3] σ4 (f_X2_put k1 a2 a3 σ4) := fh_met hok (by decide +kernel) (Nat.le_of_ble_eq_true rfl) (fun M _ C Hr => g_X2_put C Hr k1 a2 a3 σ4)
def f_X2_hasPart (k1 : Nat) (a2 : Int32) (a3 : Int32) (σ4 : fh_S) : Option (Int32 × fh_S) := fh_ob 2 k1 (if a2 < 0 then fh_rz ((0 : Int32)) σ4 else if a3 < 0 then fh_rz ((0 : Int32)) σ4 else (fh_gi σ4 2 k1 2).bind fun v5 => if v5 < a3 then fh_rz ((0 : Int32)) σ4 else (fh_gi σ4 2 k1 2).bind fun v6 => if (v6 - a3) < a2 then fh_rz ((0 : Int32)) σ4 else fh_rz ((1 : Int32)) σ4)
abbrev rm_X2_hasPart : Room := { frames := 0, cells := 0, slots := 0, locals := 0 }
theorem pd_X2_hasPart : yX2_hasPart.cls ≠ "java/lang/invoke/MethodHandle" ∧ yX2_hasPart.cls ≠ "java/lang/invoke/VarHandle" ∧ (parseMethodDescriptor yX2_hasPart.desc).map (fun d => d.parameters.length) = some 2 := by decide +kernel
theorem dX2_hasPart_0 : decode cX2_hasPart 0 = .ok (.iload_n 1, 1) := by decide +kernel
theorem dX2_hasPart_1 : decode cX2_hasPart 1 = .ok (.ifCond .lt 29, 3) := by decide +kernel
theorem dX2_hasPart_4 : decode cX2_hasPart 4 = .ok (.iload_n 2, 1) := by decide +kernel
theorem dX2_hasPart_5 : decode cX2_hasPart 5 = .ok (.ifCond .lt 25, 3) := by decide +kernel
theorem dX2_hasPart_8 : decode cX2_hasPart 8 = .ok (.iload_n 2, 1) := by decide +kernel
theorem dX2_hasPart_9 : decode cX2_hasPart 9 = .ok (.aload_n 0, 1) := by decide +kernel
theorem dX2_hasPart_10 : decode cX2_hasPart 10 = .ok (.getfield 19, 3) := by decide +kernel
theorem dX2_hasPart_13 : decode cX2_hasPart 13 = .ok (.if_icmp .gt 17, 3) := by decide +kernel
theorem dX2_hasPart_16 : decode cX2_hasPart 16 = .ok (.iload_n 1, 1) := by decide +kernel
theorem dX2_hasPart_17 : decode cX2_hasPart 17 = .ok (.aload_n 0, 1) := by decide +kernel
theorem dX2_hasPart_18 : decode cX2_hasPart 18 = .ok (.getfield 19, 3) := by decide +kernel
theorem dX2_hasPart_21 : decode cX2_hasPart 21 = .ok (.iload_n 2, 1) := by decide +kernel
theorem dX2_hasPart_22 : decode cX2_hasPart 22 = .ok (.isub, 1) := by decide +kernel
theorem dX2_hasPart_23 : decode cX2_hasPart 23 = .ok (.if_icmp .gt 7, 3) := by decide +kernel
theorem dX2_hasPart_26 : decode cX2_hasPart 26 = .ok (.iconst 1, 1) := by decide +kernel
theorem dX2_hasPart_27 : decode cX2_hasPart 27 = .ok (.goto 4, 3) := by decide +kernel
theorem dX2_hasPart_30 : decode cX2_hasPart 30 = .ok (.iconst 0, 1) := by decide +kernel
theorem dX2_hasPart_31 : decode cX2_hasPart 31 = .ok (.ireturn, 1) := by decide +kernel
set_option maxHeartbeats 4000000 in
set_option maxRecDepth 100000 in
theorem g_X2_hasPart {E : fh_E} {M : fh_M} (C : fh_Cx E M cX2_hasPart 3 RX2 ((some FieldType.boolean)) rm_X2_hasPart) (Hr : fh_Rt E M) (k1 : Nat) (a2 : Int32) (a3 : Int32) (σ4 : fh_S) : fh_Go E M 3 fh_vI 0 [(0, .ref (fh_ad E k1)), (1, .int a2), (2, .int a3)] [] σ4 (f_X2_hasPart k1 a2 a3 σ4) := by
  have hok := fh_cok C
  refine go_ob ?_
  refine go_iload_n C 1 rfl rfl dX2_hasPart_0 ?_
  refine go_if_lt (tgt := 30) C dX2_hasPart_1 rfl (fun _ => ?_) (fun _ => ?_)
  · refine go_iconst C (0 : Int32) dX2_hasPart_30 rfl ?_
    exact go_zret C Hr dX2_hasPart_31
  · refine go_iload_n C 2 rfl rfl dX2_hasPart_4 ?_
    refine go_if_lt (tgt := 30) C dX2_hasPart_5 rfl (fun _ => ?_) (fun _ => ?_)
    · refine go_iconst C (0 : Int32) dX2_hasPart_30 rfl ?_
      exact go_zret C Hr dX2_hasPart_31
    · refine go_iload_n C 2 rfl rfl dX2_hasPart_8 ?_
      refine go_aload_n C 0 rfl rfl dX2_hasPart_9 ?_
      refine go_gi (ci := 2) (j := 2) C fh_in2 rfl (by decide) rfl q_129 dX2_hasPart_10 (fun v5 => ?_)
      refine go_icmp_gt (tgt := 30) C dX2_hasPart_13 rfl (fun _ => ?_) (fun _ => ?_)
      · refine go_iconst C (0 : Int32) dX2_hasPart_30 rfl ?_
        exact go_zret C Hr dX2_hasPart_31
      · refine go_iload_n C 1 rfl rfl dX2_hasPart_16 ?_
        refine go_aload_n C 0 rfl rfl dX2_hasPart_17 ?_
        refine go_gi (ci := 2) (j := 2) C fh_in2 rfl (by decide) rfl q_129 dX2_hasPart_18 (fun v6 => ?_)
        refine go_iload_n C 2 rfl rfl dX2_hasPart_21 ?_
        refine go_isub C dX2_hasPart_22 ?_
        refine go_icmp_gt (tgt := 30) C dX2_hasPart_23 rfl (fun _ => ?_) (fun _ => ?_)
        · refine go_iconst C (0 : Int32) dX2_hasPart_30 rfl ?_
          exact go_zret C Hr dX2_hasPart_31
        · refine go_iconst C (1 : Int32) dX2_hasPart_26 rfl ?_
          refine go_goto C 31 dX2_hasPart_27 rfl ?_
          exact go_zret C Hr dX2_hasPart_31
theorem m_X2_hasPart (E : fh_E) (l : Launch) (hok : fh_ok E) (k1 : Nat) (a2 : Int32) (a3 : Int32) (σ4 : fh_S) : fh_Met E l yX2_hasPart cX2_hasPart 3 ((some FieldType.boolean)) rm_X2_hasPart fh_vI [.ref (fh_ad E k1), .int a2, .int a3] σ4 (f_X2_hasPart k1 a2 a3 σ4) := fh_met hok (by decide +kernel) (Nat.le_of_ble_eq_true rfl) (fun M _ C Hr => g_X2_hasPart C Hr k1 a2 a3 σ4)
def f_X3_append (k1 : Nat) (a2 : Int32) (σ3 : fh_S) : Option (Unit × fh_S) := fh_ob 3 k1 ((fh_gi σ3 3 k1 1).bind fun v4 => if ((120 : Int32)) ≤ v4 then some ((), σ3) else (fh_gr 3 k1 0).bind fun k5 => (fh_gi σ3 3 k1 1).bind fun v6 => (fh_st σ3 k5 v6 a2).bind fun σ7 => (fh_gi σ7 3 k1 1).bind fun v8 => (fh_pf σ7 3 k1 1 (v8 + ((1 : Int32)))).bind fun σ9 => some ((), σ9))
abbrev rm_X3_append : Room := { frames := 0, cells := 0, slots := 0, locals := 0 }
theorem pd_X3_append : yX3_append.cls ≠ "java/lang/invoke/MethodHandle" ∧ yX3_append.cls ≠ "java/lang/invoke/VarHandle" ∧ (parseMethodDescriptor yX3_append.desc).map (fun d => d.parameters.length) = some 1 := by decide +kernel
theorem dX3_append_0 : decode cX3_append 0 = .ok (.aload_n 0, 1) := by decide +kernel
theorem dX3_append_1 : decode cX3_append 1 = .ok (.getfield 15, 3) := by decide +kernel
theorem dX3_append_4 : decode cX3_append 4 = .ok (.bipush 120, 2) := by decide +kernel
theorem dX3_append_6 : decode cX3_append 6 = .ok (.if_icmp .ge 23, 3) := by decide +kernel
theorem dX3_append_9 : decode cX3_append 9 = .ok (.aload_n 0, 1) := by decide +kernel
theorem dX3_append_10 : decode cX3_append 10 = .ok (.getfield 9, 3) := by decide +kernel
theorem dX3_append_13 : decode cX3_append 13 = .ok (.aload_n 0, 1) := by decide +kernel
theorem dX3_append_14 : decode cX3_append 14 = .ok (.getfield 15, 3) := by decide +kernel
theorem dX3_append_17 : decode cX3_append 17 = .ok (.iload_n 1, 1) := by decide +kernel
theorem dX3_append_18 : decode cX3_append 18 = .ok (.iastore, 1) := by decide +kernel
theorem dX3_append_19 : decode cX3_append 19 = .ok (.aload_n 0, 1) := by decide +kernel
theorem dX3_append_20 : decode cX3_append 20 = .ok (.dup, 1) := by decide +kernel
theorem dX3_append_21 : decode cX3_append 21 = .ok (.getfield 15, 3) := by decide +kernel
theorem dX3_append_24 : decode cX3_append 24 = .ok (.iconst 1, 1) := by decide +kernel
theorem dX3_append_25 : decode cX3_append 25 = .ok (.iadd, 1) := by decide +kernel
theorem dX3_append_26 : decode cX3_append 26 = .ok (.putfield 15, 3) := by decide +kernel
theorem dX3_append_29 : decode cX3_append 29 = .ok (.return_, 1) := by decide +kernel
set_option maxHeartbeats 4000000 in
set_option maxRecDepth 100000 in
theorem g_X3_append {E : fh_E} {M : fh_M} (C : fh_Cx E M cX3_append 2 RX3 (none) rm_X3_append) (Hr : fh_Rt E M) (k1 : Nat) (a2 : Int32) (σ3 : fh_S) : fh_Go E M 2 fh_vU 0 [(0, .ref (fh_ad E k1)), (1, .int a2)] [] σ3 (f_X3_append k1 a2 σ3) := by
  have hok := fh_cok C
  refine go_ob ?_
  refine go_aload_n C 0 rfl rfl dX3_append_0 ?_
  refine go_gi (ci := 3) (j := 1) C fh_in3 rfl (by decide) rfl q_86 dX3_append_1 (fun v4 => ?_)
  refine go_bipush C (120 : Int32) dX3_append_4 rfl ?_
  refine go_icmp_ge (tgt := 29) C dX3_append_6 rfl (fun _ => ?_) (fun _ => ?_)
  · exact go_vret C Hr rfl dX3_append_29
  · refine go_aload_n C 0 rfl rfl dX3_append_9 ?_
    refine go_gr (ci := 3) (j := 0) C fh_in3 rfl (by decide) rfl q_85 dX3_append_10 (fun k5 => ?_)
    refine go_aload_n C 0 rfl rfl dX3_append_13 ?_
    refine go_gi (ci := 3) (j := 1) C fh_in3 rfl (by decide) rfl q_86 dX3_append_14 (fun v6 => ?_)
    refine go_iload_n C 1 rfl rfl dX3_append_17 ?_
    refine go_iast C dX3_append_18 (fun σ7 => ?_)
    refine go_aload_n C 0 rfl rfl dX3_append_19 ?_
    refine go_dup C rfl dX3_append_20 ?_
    refine go_gi (ci := 3) (j := 1) C fh_in3 rfl (by decide) rfl q_86 dX3_append_21 (fun v8 => ?_)
    refine go_iconst C (1 : Int32) dX3_append_24 rfl ?_
    refine go_iadd C dX3_append_25 ?_
    refine go_pf (ci := 3) (j := 1) C tyX3 tyX3_ok nmX3 fh_in3 rfl (by decide) rfl q_86 rfl rfl dX3_append_26 (fun σ9 => ?_)
    exact go_vret C Hr rfl dX3_append_29
theorem m_X3_append (E : fh_E) (l : Launch) (hok : fh_ok E) (k1 : Nat) (a2 : Int32) (σ3 : fh_S) : fh_Met E l yX3_append cX3_append 2 (none) rm_X3_append fh_vU [.ref (fh_ad E k1), .int a2] σ3 (f_X3_append k1 a2 σ3) := fh_met hok (by decide +kernel) (Nat.le_of_ble_eq_true rfl) (fun M _ C Hr => g_X3_append C Hr k1 a2 σ3)
def f_X4_tell (k1 : Nat) (a2 : Int32) (σ3 : fh_S) : Option (Int32 × fh_S) := fh_ob 4 k1 (fh_cb (f_X4_isWithin (((-1000001 : Int32)) - a2) ((0 : Int32)) ((6 : Int32)) σ3) fun r5 σ4 => if r5 = 0 then some (a2, σ4) else (fh_gr 4 k1 6).bind fun k6 => (fh_ld σ4 k6 (((-1000001 : Int32)) - a2)).bind fun v7 => (fh_st σ4 k6 (((-1000001 : Int32)) - a2) (v7 + ((1 : Int32)))).bind fun σ8 => some (a2, σ8))
abbrev rm_X4_tell : Room := { frames := 1, cells := 0, slots := 0, locals := 22 }
theorem pd_X4_tell : yX4_tell.cls ≠ "java/lang/invoke/MethodHandle" ∧ yX4_tell.cls ≠ "java/lang/invoke/VarHandle" ∧ (parseMethodDescriptor yX4_tell.desc).map (fun d => d.parameters.length) = some 1 := by decide +kernel
theorem dX4_tell_0 : decode cX4_tell 0 = .ok (.ldc 57, 2) := by decide +kernel
theorem dX4_tell_2 : decode cX4_tell 2 = .ok (.iload_n 1, 1) := by decide +kernel
theorem dX4_tell_3 : decode cX4_tell 3 = .ok (.isub, 1) := by decide +kernel
theorem dX4_tell_4 : decode cX4_tell 4 = .ok (.istore_n 2, 1) := by decide +kernel
theorem dX4_tell_5 : decode cX4_tell 5 = .ok (.iload_n 2, 1) := by decide +kernel
theorem dX4_tell_6 : decode cX4_tell 6 = .ok (.iconst 0, 1) := by decide +kernel
theorem dX4_tell_7 : decode cX4_tell 7 = .ok (.bipush 6, 2) := by decide +kernel
theorem dX4_tell_9 : decode cX4_tell 9 = .ok (.invokestatic 84, 3) := by decide +kernel
theorem dX4_tell_12 : decode cX4_tell 12 = .ok (.ifCond .eq 13, 3) := by decide +kernel
theorem dX4_tell_15 : decode cX4_tell 15 = .ok (.aload_n 0, 1) := by decide +kernel
theorem dX4_tell_16 : decode cX4_tell 16 = .ok (.getfield 45, 3) := by decide +kernel
theorem dX4_tell_19 : decode cX4_tell 19 = .ok (.iload_n 2, 1) := by decide +kernel
theorem dX4_tell_20 : decode cX4_tell 20 = .ok (.dup2, 1) := by decide +kernel
theorem dX4_tell_21 : decode cX4_tell 21 = .ok (.iaload, 1) := by decide +kernel
theorem dX4_tell_22 : decode cX4_tell 22 = .ok (.iconst 1, 1) := by decide +kernel
theorem dX4_tell_23 : decode cX4_tell 23 = .ok (.iadd, 1) := by decide +kernel
theorem dX4_tell_24 : decode cX4_tell 24 = .ok (.iastore, 1) := by decide +kernel
theorem dX4_tell_25 : decode cX4_tell 25 = .ok (.iload_n 1, 1) := by decide +kernel
theorem dX4_tell_26 : decode cX4_tell 26 = .ok (.ireturn, 1) := by decide +kernel
set_option maxHeartbeats 4000000 in
set_option maxRecDepth 100000 in
theorem g_X4_tell {E : fh_E} {M : fh_M} (C : fh_Cx E M cX4_tell 3 RX4 ((some FieldType.int)) rm_X4_tell) (Hr : fh_Rt E M) (k1 : Nat) (a2 : Int32) (σ3 : fh_S) : fh_Go E M 3 fh_vI 0 [(0, .ref (fh_ad E k1)), (1, .int a2)] [] σ3 (f_X4_tell k1 a2 σ3) := by
  have hok := fh_cok C
  refine go_ob ?_
  refine go_ldc C q_175 dX4_tell_0 ?_
  refine go_iload_n C 1 rfl rfl dX4_tell_2 ?_
  refine go_isub C dX4_tell_3 ?_
  refine go_istore_n C [(2, .int (((-1000001 : Int32)) - a2)), (0, .ref (fh_ad E k1)), (1, .int a2)] rfl rfl (by decide) dX4_tell_4 ?_
  refine go_iload_n C 0 rfl rfl dX4_tell_5 ?_
  refine go_iconst C (0 : Int32) dX4_tell_6 rfl ?_
  refine go_bipush C (6 : Int32) dX4_tell_7 rfl ?_
  refine go_callSI C (st := []) [.int (((-1000001 : Int32)) - a2), .int ((0 : Int32)), .int ((6 : Int32))] (m_X4_isWithin E _ hok (((-1000001 : Int32)) - a2) ((0 : Int32)) ((6 : Int32)) σ3) rfl ⟨q_172, q_173, q_1, q_174⟩ pd_X4_isWithin rfl ⟨⟨Nat.le_of_ble_eq_true rfl, Nat.le_of_ble_eq_true rfl⟩, rfl, rfl⟩ (Nat.le_of_ble_eq_true rfl) dX4_tell_9 (fun r5 σ4 => ?_)
  refine go_if_eq (tgt := 25) C dX4_tell_12 rfl (fun _ => ?_) (fun _ => ?_)
  · refine go_iload_n C 2 rfl rfl dX4_tell_25 ?_
    exact go_iret C Hr rfl dX4_tell_26
  · refine go_aload_n C 1 rfl rfl dX4_tell_15 ?_
    refine go_gr (ci := 4) (j := 6) C fh_in4 rfl (by decide) rfl q_144 dX4_tell_16 (fun k6 => ?_)
    refine go_iload_n C 0 rfl rfl dX4_tell_19 ?_
    refine go_dup2 C rfl rfl dX4_tell_20 ?_
    refine go_iald C dX4_tell_21 (fun v7 => ?_)
    refine go_iconst C (1 : Int32) dX4_tell_22 rfl ?_
    refine go_iadd C dX4_tell_23 ?_
    refine go_iast C dX4_tell_24 (fun σ8 => ?_)
    refine go_iload_n C 2 rfl rfl dX4_tell_25 ?_
    exact go_iret C Hr rfl dX4_tell_26
theorem m_X4_tell (E : fh_E) (l : Launch) (hok : fh_ok E) (k1 : Nat) (a2 : Int32) (σ3 : fh_S) : fh_Met E l yX4_tell cX4_tell 3 ((some FieldType.int)) rm_X4_tell fh_vI [.ref (fh_ad E k1), .int a2] σ3 (f_X4_tell k1 a2 σ3) := fh_met hok (by decide +kernel) (Nat.le_of_ble_eq_true rfl) (fun M _ C Hr => g_X4_tell C Hr k1 a2 σ3)
def f_X4_dial (k1 : Nat) (a2 : Int32) (σ3 : fh_S) : Option (Int32 × fh_S) := fh_ob 4 k1 (fh_cb (f_X4_isKind a2 σ3) fun r5 σ4 => if r5 = 0 then fh_cb (f_X4_tell k1 ((-1000001 : Int32)) σ4) fun r15 σ14 => some (r15, σ14) else (fh_gr 4 k1 0).bind fun k6 => fh_cb (f_X0_isFull k6 σ4) fun r8 σ7 => if r8 = 0 then (fh_gr 4 k1 0).bind fun k9 => fh_cb (f_X0_add k9 a2 σ7) fun r11 σ10 => some (r11, σ10) else fh_cb (f_X4_tell k1 ((-1000002 : Int32)) σ7) fun r13 σ12 => some (r13, σ12))
abbrev rm_X4_dial : Room := { frames := 2, cells := 0, slots := 0, locals := 44 }
theorem pd_X4_dial : yX4_dial.cls ≠ "java/lang/invoke/MethodHandle" ∧ yX4_dial.cls ≠ "java/lang/invoke/VarHandle" ∧ (parseMethodDescriptor yX4_dial.desc).map (fun d => d.parameters.length) = some 1 := by decide +kernel
theorem dX4_dial_0 : decode cX4_dial 0 = .ok (.iload_n 1, 1) := by decide +kernel
theorem dX4_dial_1 : decode cX4_dial 1 = .ok (.invokestatic 53, 3) := by decide +kernel
theorem dX4_dial_4 : decode cX4_dial 4 = .ok (.ifCond .ne 10, 3) := by decide +kernel
theorem dX4_dial_7 : decode cX4_dial 7 = .ok (.aload_n 0, 1) := by decide +kernel
theorem dX4_dial_8 : decode cX4_dial 8 = .ok (.ldc 57, 2) := by decide +kernel
theorem dX4_dial_10 : decode cX4_dial 10 = .ok (.invokevirtual 58, 3) := by decide +kernel
theorem dX4_dial_13 : decode cX4_dial 13 = .ok (.ireturn, 1) := by decide +kernel
theorem dX4_dial_14 : decode cX4_dial 14 = .ok (.aload_n 0, 1) := by decide +kernel
theorem dX4_dial_15 : decode cX4_dial 15 = .ok (.getfield 12, 3) := by decide +kernel
theorem dX4_dial_18 : decode cX4_dial 18 = .ok (.invokevirtual 62, 3) := by decide +kernel
theorem dX4_dial_21 : decode cX4_dial 21 = .ok (.ifCond .eq 10, 3) := by decide +kernel
theorem dX4_dial_24 : decode cX4_dial 24 = .ok (.aload_n 0, 1) := by decide +kernel
theorem dX4_dial_25 : decode cX4_dial 25 = .ok (.ldc 66, 2) := by decide +kernel
theorem dX4_dial_27 : decode cX4_dial 27 = .ok (.invokevirtual 58, 3) := by decide +kernel
theorem dX4_dial_30 : decode cX4_dial 30 = .ok (.ireturn, 1) := by decide +kernel
theorem dX4_dial_31 : decode cX4_dial 31 = .ok (.aload_n 0, 1) := by decide +kernel
theorem dX4_dial_32 : decode cX4_dial 32 = .ok (.getfield 12, 3) := by decide +kernel
theorem dX4_dial_35 : decode cX4_dial 35 = .ok (.iload_n 1, 1) := by decide +kernel
theorem dX4_dial_36 : decode cX4_dial 36 = .ok (.invokevirtual 67, 3) := by decide +kernel
theorem dX4_dial_39 : decode cX4_dial 39 = .ok (.ireturn, 1) := by decide +kernel
set_option maxHeartbeats 4000000 in
set_option maxRecDepth 100000 in
theorem g_X4_dial {E : fh_E} {M : fh_M} (C : fh_Cx E M cX4_dial 2 RX4 ((some FieldType.int)) rm_X4_dial) (Hr : fh_Rt E M) (k1 : Nat) (a2 : Int32) (σ3 : fh_S) : fh_Go E M 2 fh_vI 0 [(0, .ref (fh_ad E k1)), (1, .int a2)] [] σ3 (f_X4_dial k1 a2 σ3) := by
  have hok := fh_cok C
  refine go_ob ?_
  refine go_iload_n C 1 rfl rfl dX4_dial_0 ?_
  refine go_callSI C (st := []) [.int a2] (m_X4_isKind E _ hok a2 σ3) rfl ⟨q_167, q_168, q_1, q_169⟩ pd_X4_isKind rfl ⟨⟨Nat.le_of_ble_eq_true rfl, Nat.le_of_ble_eq_true rfl⟩, rfl, rfl⟩ (Nat.le_of_ble_eq_true rfl) dX4_dial_1 (fun r5 σ4 => ?_)
  refine go_if_ne (tgt := 14) C dX4_dial_4 rfl (fun _ => ?_) (fun _ => ?_)
  · refine go_aload_n C 0 rfl rfl dX4_dial_14 ?_
    refine go_gr (ci := 4) (j := 0) C fh_in4 rfl (by decide) rfl q_138 dX4_dial_15 (fun k6 => ?_)
    refine go_callVI C (st := []) [] (m_X0_isFull E _ hok k6 σ4) (fun _ h => fh_ob_ok h) rfl rfl ⟨q_180, q_181, q_182, q_2, q_183⟩ pd_X0_isFull rfl ⟨⟨Nat.le_of_ble_eq_true rfl, Nat.le_of_ble_eq_true rfl⟩, rfl, rfl⟩ (Nat.le_of_ble_eq_true rfl) dX4_dial_18 (fun r8 σ7 => ?_)
    refine go_if_eq (tgt := 31) C dX4_dial_21 rfl (fun _ => ?_) (fun _ => ?_)
    · refine go_aload_n C 0 rfl rfl dX4_dial_31 ?_
      refine go_gr (ci := 4) (j := 0) C fh_in4 rfl (by decide) rfl q_138 dX4_dial_32 (fun k9 => ?_)
      refine go_iload_n C 1 rfl rfl dX4_dial_35 ?_
      refine go_callVI C (st := []) [.int a2] (m_X0_add E _ hok k9 a2 σ7) (fun _ h => fh_ob_ok h) rfl rfl ⟨q_185, q_186, q_187, q_2, q_188⟩ pd_X0_add rfl ⟨⟨Nat.le_of_ble_eq_true rfl, Nat.le_of_ble_eq_true rfl⟩, rfl, rfl⟩ (Nat.le_of_ble_eq_true rfl) dX4_dial_36 (fun r11 σ10 => ?_)
      exact go_iret C Hr rfl dX4_dial_39
    · refine go_aload_n C 0 rfl rfl dX4_dial_24 ?_
      refine go_ldc C q_184 dX4_dial_25 ?_
      refine go_callVI C (st := []) [.int ((-1000002 : Int32))] (m_X4_tell E _ hok k1 ((-1000002 : Int32)) σ7) (fun _ h => fh_ob_ok h) rfl rfl ⟨q_176, q_178, qs_0, q_1, q_179⟩ pd_X4_tell rfl ⟨⟨Nat.le_of_ble_eq_true rfl, Nat.le_of_ble_eq_true rfl⟩, rfl, rfl⟩ (Nat.le_of_ble_eq_true rfl) dX4_dial_27 (fun r13 σ12 => ?_)
      exact go_iret C Hr rfl dX4_dial_30
  · refine go_aload_n C 0 rfl rfl dX4_dial_7 ?_
    refine go_ldc C q_175 dX4_dial_8 ?_
    refine go_callVI C (st := []) [.int ((-1000001 : Int32))] (m_X4_tell E _ hok k1 ((-1000001 : Int32)) σ4) (fun _ h => fh_ob_ok h) rfl rfl ⟨q_176, q_178, qs_0, q_1, q_179⟩ pd_X4_tell rfl ⟨⟨Nat.le_of_ble_eq_true rfl, Nat.le_of_ble_eq_true rfl⟩, rfl, rfl⟩ (Nat.le_of_ble_eq_true rfl) dX4_dial_10 (fun r15 σ14 => ?_)
    exact go_iret C Hr rfl dX4_dial_13
theorem m_X4_dial (E : fh_E) (l : Launch) (hok : fh_ok E) (k1 : Nat) (a2 : Int32) (σ3 : fh_S) : fh_Met E l yX4_dial cX4_dial 2 ((some FieldType.int)) rm_X4_dial fh_vI [.ref (fh_ad E k1), .int a2] σ3 (f_X4_dial k1 a2 σ3) := fh_met hok (by decide +kernel) (Nat.le_of_ble_eq_true rfl) (fun M _ C Hr => g_X4_dial C Hr k1 a2 σ3)
def f_X4_of (k1 : Nat) (a2 : Int32) (a3 : Int32) (σ4 : fh_S) : Option (Int32 × fh_S) := fh_ob 4 k1 ((fh_gr 4 k1 0).bind fun k5 => fh_cb (f_X0_has k5 a2 σ4) fun r7 σ6 => if r7 = 0 then fh_cb (f_X4_tell k1 ((-1000001 : Int32)) σ6) fun r19 σ18 => some (r19, σ18) else if a3 = ((6 : Int32)) then (fh_gr 4 k1 0).bind fun k15 => fh_cb (f_X0_paceOf k15 a2 σ6) fun r17 σ16 => some (r17, σ16) else (fh_gr 4 k1 0).bind fun k8 => fh_cb (f_X0_rowOf k8 a3 σ6) fun o10 σ9 => fh_on o10 (fh_cb (f_X4_tell k1 ((-1000001 : Int32)) σ9) fun r13 σ12 => some (r13, σ12)) (fun k11 => (fh_ld σ9 k11 a2).bind fun v14 => some (v14, σ9)))
abbrev rm_X4_of : Room := { frames := 3, cells := 0, slots := 0, locals := 68 }
theorem pd_X4_of : yX4_of.cls ≠ "java/lang/invoke/MethodHandle" ∧ yX4_of.cls ≠ "java/lang/invoke/VarHandle" ∧ (parseMethodDescriptor yX4_of.desc).map (fun d => d.parameters.length) = some 2 := by decide +kernel
theorem dX4_of_0 : decode cX4_of 0 = .ok (.aload_n 0, 1) := by decide +kernel
theorem dX4_of_1 : decode cX4_of 1 = .ok (.getfield 12, 3) := by decide +kernel
theorem dX4_of_4 : decode cX4_of 4 = .ok (.iload_n 1, 1) := by decide +kernel
theorem dX4_of_5 : decode cX4_of 5 = .ok (.invokevirtual 70, 3) := by decide +kernel
theorem dX4_of_8 : decode cX4_of 8 = .ok (.ifCond .ne 10, 3) := by decide +kernel
theorem dX4_of_11 : decode cX4_of 11 = .ok (.aload_n 0, 1) := by decide +kernel
theorem dX4_of_12 : decode cX4_of 12 = .ok (.ldc 57, 2) := by decide +kernel
theorem dX4_of_14 : decode cX4_of 14 = .ok (.invokevirtual 58, 3) := by decide +kernel
theorem dX4_of_17 : decode cX4_of 17 = .ok (.ireturn, 1) := by decide +kernel
theorem dX4_of_18 : decode cX4_of 18 = .ok (.iload_n 2, 1) := by decide +kernel
theorem dX4_of_19 : decode cX4_of 19 = .ok (.bipush 6, 2) := by decide +kernel
theorem dX4_of_21 : decode cX4_of 21 = .ok (.if_icmp .ne 12, 3) := by decide +kernel
theorem dX4_of_24 : decode cX4_of 24 = .ok (.aload_n 0, 1) := by decide +kernel
theorem dX4_of_25 : decode cX4_of 25 = .ok (.getfield 12, 3) := by decide +kernel
theorem dX4_of_28 : decode cX4_of 28 = .ok (.iload_n 1, 1) := by decide +kernel
theorem dX4_of_29 : decode cX4_of 29 = .ok (.invokevirtual 73, 3) := by decide +kernel
theorem dX4_of_32 : decode cX4_of 32 = .ok (.ireturn, 1) := by decide +kernel
theorem dX4_of_33 : decode cX4_of 33 = .ok (.aload_n 0, 1) := by decide +kernel
theorem dX4_of_34 : decode cX4_of 34 = .ok (.getfield 12, 3) := by decide +kernel
theorem dX4_of_37 : decode cX4_of 37 = .ok (.iload_n 2, 1) := by decide +kernel
theorem dX4_of_38 : decode cX4_of 38 = .ok (.invokevirtual 76, 3) := by decide +kernel
theorem dX4_of_41 : decode cX4_of 41 = .ok (.astore_n 3, 1) := by decide +kernel
theorem dX4_of_42 : decode cX4_of 42 = .ok (.aload_n 3, 1) := by decide +kernel
theorem dX4_of_43 : decode cX4_of 43 = .ok (.ifnonnull 12, 3) := by decide +kernel
theorem dX4_of_46 : decode cX4_of 46 = .ok (.aload_n 0, 1) := by decide +kernel
theorem dX4_of_47 : decode cX4_of 47 = .ok (.ldc 57, 2) := by decide +kernel
theorem dX4_of_49 : decode cX4_of 49 = .ok (.invokevirtual 58, 3) := by decide +kernel
theorem dX4_of_52 : decode cX4_of 52 = .ok (.goto 6, 3) := by decide +kernel
theorem dX4_of_55 : decode cX4_of 55 = .ok (.aload_n 3, 1) := by decide +kernel
theorem dX4_of_56 : decode cX4_of 56 = .ok (.iload_n 1, 1) := by decide +kernel
theorem dX4_of_57 : decode cX4_of 57 = .ok (.iaload, 1) := by decide +kernel
theorem dX4_of_58 : decode cX4_of 58 = .ok (.ireturn, 1) := by decide +kernel
set_option maxHeartbeats 4000000 in
set_option maxRecDepth 100000 in
theorem g_X4_of {E : fh_E} {M : fh_M} (C : fh_Cx E M cX4_of 4 RX4 ((some FieldType.int)) rm_X4_of) (Hr : fh_Rt E M) (k1 : Nat) (a2 : Int32) (a3 : Int32) (σ4 : fh_S) : fh_Go E M 4 fh_vI 0 [(0, .ref (fh_ad E k1)), (1, .int a2), (2, .int a3)] [] σ4 (f_X4_of k1 a2 a3 σ4) := by
  have hok := fh_cok C
  refine go_ob ?_
  refine go_aload_n C 0 rfl rfl dX4_of_0 ?_
  refine go_gr (ci := 4) (j := 0) C fh_in4 rfl (by decide) rfl q_138 dX4_of_1 (fun k5 => ?_)
  refine go_iload_n C 1 rfl rfl dX4_of_4 ?_
  refine go_callVI C (st := []) [.int a2] (m_X0_has E _ hok k5 a2 σ4) (fun _ h => fh_ob_ok h) rfl rfl ⟨q_196, q_197, q_198, q_2, q_199⟩ pd_X0_has rfl ⟨⟨Nat.le_of_ble_eq_true rfl, Nat.le_of_ble_eq_true rfl⟩, rfl, rfl⟩ (Nat.le_of_ble_eq_true rfl) dX4_of_5 (fun r7 σ6 => ?_)
  refine go_if_ne (tgt := 18) C dX4_of_8 rfl (fun _ => ?_) (fun _ => ?_)
  · refine go_iload_n C 2 rfl rfl dX4_of_18 ?_
    refine go_bipush C (6 : Int32) dX4_of_19 rfl ?_
    refine go_icmp_ne (tgt := 33) C dX4_of_21 rfl (fun _ => ?_) (fun _ => ?_)
    · refine go_aload_n C 0 rfl rfl dX4_of_33 ?_
      refine go_gr (ci := 4) (j := 0) C fh_in4 rfl (by decide) rfl q_138 dX4_of_34 (fun k8 => ?_)
      refine go_iload_n C 2 rfl rfl dX4_of_37 ?_
      refine go_callVR C (st := []) [.int a3] (m_X0_rowOf E _ hok k8 a3 σ6) (fun _ h => fh_ob_ok h) rfl rfl ⟨q_217, q_218, q_219, q_2, q_220⟩ pd_X0_rowOf rfl ⟨⟨Nat.le_of_ble_eq_true rfl, Nat.le_of_ble_eq_true rfl⟩, rfl, rfl⟩ (Nat.le_of_ble_eq_true rfl) dX4_of_38 (fun o10 σ9 => ?_)
      refine go_on ?_ (fun k11 => ?_)
      · refine go_astore_nN C [(3, .null), (0, .ref (fh_ad E k1)), (1, .int a2), (2, .int a3)] rfl rfl (by decide) dX4_of_41 ?_
        refine go_aload_nN C 0 rfl rfl dX4_of_42 ?_
        refine go_ifnonnullN C dX4_of_43 ?_
        refine go_aload_n C 1 rfl rfl dX4_of_46 ?_
        refine go_ldc C q_175 dX4_of_47 ?_
        refine go_callVI C (st := []) [.int ((-1000001 : Int32))] (m_X4_tell E _ hok k1 ((-1000001 : Int32)) σ9) (fun _ h => fh_ob_ok h) rfl rfl ⟨q_176, q_178, qs_0, q_1, q_179⟩ pd_X4_tell rfl ⟨⟨Nat.le_of_ble_eq_true rfl, Nat.le_of_ble_eq_true rfl⟩, rfl, rfl⟩ (Nat.le_of_ble_eq_true rfl) dX4_of_49 (fun r13 σ12 => ?_)
        refine go_goto C 58 dX4_of_52 rfl ?_
        exact go_iret C Hr rfl dX4_of_58
      · refine go_astore_n C [(3, .ref (fh_ad E k11)), (0, .ref (fh_ad E k1)), (1, .int a2), (2, .int a3)] rfl rfl (by decide) dX4_of_41 ?_
        refine go_aload_n C 0 rfl rfl dX4_of_42 ?_
        refine go_ifnonnull C 55 dX4_of_43 rfl ?_
        refine go_aload_n C 0 rfl rfl dX4_of_55 ?_
        refine go_iload_n C 2 rfl rfl dX4_of_56 ?_
        refine go_iald C dX4_of_57 (fun v14 => ?_)
        exact go_iret C Hr rfl dX4_of_58
    · refine go_aload_n C 0 rfl rfl dX4_of_24 ?_
      refine go_gr (ci := 4) (j := 0) C fh_in4 rfl (by decide) rfl q_138 dX4_of_25 (fun k15 => ?_)
      refine go_iload_n C 1 rfl rfl dX4_of_28 ?_
      refine go_callVI C (st := []) [.int a2] (m_X0_paceOf E _ hok k15 a2 σ6) (fun _ h => fh_ob_ok h) rfl rfl ⟨q_200, q_201, q_202, q_2, q_203⟩ pd_X0_paceOf rfl ⟨⟨Nat.le_of_ble_eq_true rfl, Nat.le_of_ble_eq_true rfl⟩, rfl, rfl⟩ (Nat.le_of_ble_eq_true rfl) dX4_of_29 (fun r17 σ16 => ?_)
      exact go_iret C Hr rfl dX4_of_32
  · refine go_aload_n C 0 rfl rfl dX4_of_11 ?_
    refine go_ldc C q_175 dX4_of_12 ?_
    refine go_callVI C (st := []) [.int ((-1000001 : Int32))] (m_X4_tell E _ hok k1 ((-1000001 : Int32)) σ6) (fun _ h => fh_ob_ok h) rfl rfl ⟨q_176, q_178, qs_0, q_1, q_179⟩ pd_X4_tell rfl ⟨⟨Nat.le_of_ble_eq_true rfl, Nat.le_of_ble_eq_true rfl⟩, rfl, rfl⟩ (Nat.le_of_ble_eq_true rfl) dX4_of_14 (fun r19 σ18 => ?_)
    exact go_iret C Hr rfl dX4_of_17
theorem m_X4_of (E : fh_E) (l : Launch) (hok : fh_ok E) (k1 : Nat) (a2 : Int32) (a3 : Int32) (σ4 : fh_S) : fh_Met E l yX4_of cX4_of 4 ((some FieldType.int)) rm_X4_of fh_vI [.ref (fh_ad E k1), .int a2, .int a3] σ4 (f_X4_of k1 a2 a3 σ4) := fh_met hok (by decide +kernel) (Nat.le_of_ble_eq_true rfl) (fun M _ C Hr => g_X4_of C Hr k1 a2 a3 σ4)
def f_X4_change_J38 (k1 : Nat) : fh_S → Option (Int32 × fh_S) := fun σ13 => fh_cb (f_X4_tell k1 ((-1000001 : Int32)) σ13) fun r15 σ14 => some (r15, σ14)
def f_X4_change_J38a (k1 : Nat) : fh_S → Option (Int32 × fh_S) := fun σ20 => fh_cb (f_X4_tell k1 ((-1000001 : Int32)) σ20) fun r22 σ21 => some (r22, σ21)
def f_X4_change (k1 : Nat) (a2 : Int32) (a3 : Int32) (a4 : Int32) (σ5 : fh_S) : Option (Int32 × fh_S) := fh_ob 4 k1 ((fh_gr 4 k1 0).bind fun k6 => fh_cb (f_X0_rowOf k6 a3 σ5) fun o8 σ7 => fh_on o8 ((fh_gr 4 k1 0).bind fun k10 => fh_cb (f_X0_has k10 a2 σ7) fun r12 σ11 => fh_jn (f_X4_change_J38 k1) (fun j16 => if r12 = 0 then j16 σ11 else j16 σ11)) (fun k9 => (fh_gr 4 k1 0).bind fun k17 => fh_cb (f_X0_has k17 a2 σ7) fun r19 σ18 => fh_jn (f_X4_change_J38a k1) (fun j23 => if r19 = 0 then j23 σ18 else (fh_gr 4 k1 0).bind fun k24 => fh_cb (f_X0_mayBecome k24 a3 a4 σ18) fun r26 σ25 => if r26 = 0 then j23 σ25 else (fh_ld σ25 k9 a2).bind fun v27 => (fh_st σ25 k9 a2 a4).bind fun σ28 => some (v27, σ28))))
abbrev rm_X4_change : Room := { frames := 3, cells := 0, slots := 0, locals := 64 }
theorem pd_X4_change : yX4_change.cls ≠ "java/lang/invoke/MethodHandle" ∧ yX4_change.cls ≠ "java/lang/invoke/VarHandle" ∧ (parseMethodDescriptor yX4_change.desc).map (fun d => d.parameters.length) = some 3 := by decide +kernel
theorem dX4_change_0 : decode cX4_change 0 = .ok (.aload_n 0, 1) := by decide +kernel
theorem dX4_change_1 : decode cX4_change 1 = .ok (.getfield 12, 3) := by decide +kernel
theorem dX4_change_4 : decode cX4_change 4 = .ok (.iload_n 2, 1) := by decide +kernel
theorem dX4_change_5 : decode cX4_change 5 = .ok (.invokevirtual 76, 3) := by decide +kernel
theorem dX4_change_8 : decode cX4_change 8 = .ok (.astore 4, 2) := by decide +kernel
theorem dX4_change_10 : decode cX4_change 10 = .ok (.aload_n 0, 1) := by decide +kernel
theorem dX4_change_11 : decode cX4_change 11 = .ok (.getfield 12, 3) := by decide +kernel
theorem dX4_change_14 : decode cX4_change 14 = .ok (.iload_n 1, 1) := by decide +kernel
theorem dX4_change_15 : decode cX4_change 15 = .ok (.invokevirtual 70, 3) := by decide +kernel
theorem dX4_change_18 : decode cX4_change 18 = .ok (.ifCond .eq 20, 3) := by decide +kernel
theorem dX4_change_21 : decode cX4_change 21 = .ok (.aload 4, 2) := by decide +kernel
theorem dX4_change_23 : decode cX4_change 23 = .ok (.ifnull 15, 3) := by decide +kernel
theorem dX4_change_26 : decode cX4_change 26 = .ok (.aload_n 0, 1) := by decide +kernel
theorem dX4_change_27 : decode cX4_change 27 = .ok (.getfield 12, 3) := by decide +kernel
theorem dX4_change_30 : decode cX4_change 30 = .ok (.iload_n 2, 1) := by decide +kernel
theorem dX4_change_31 : decode cX4_change 31 = .ok (.iload_n 3, 1) := by decide +kernel
theorem dX4_change_32 : decode cX4_change 32 = .ok (.invokevirtual 80, 3) := by decide +kernel
theorem dX4_change_35 : decode cX4_change 35 = .ok (.ifCond .ne 10, 3) := by decide +kernel
theorem dX4_change_38 : decode cX4_change 38 = .ok (.aload_n 0, 1) := by decide +kernel
theorem dX4_change_39 : decode cX4_change 39 = .ok (.ldc 57, 2) := by decide +kernel
theorem dX4_change_41 : decode cX4_change 41 = .ok (.invokevirtual 58, 3) := by decide +kernel
theorem dX4_change_44 : decode cX4_change 44 = .ok (.ireturn, 1) := by decide +kernel
theorem dX4_change_45 : decode cX4_change 45 = .ok (.aload 4, 2) := by decide +kernel
theorem dX4_change_47 : decode cX4_change 47 = .ok (.iload_n 1, 1) := by decide +kernel
theorem dX4_change_48 : decode cX4_change 48 = .ok (.iaload, 1) := by decide +kernel
theorem dX4_change_49 : decode cX4_change 49 = .ok (.istore 5, 2) := by decide +kernel
theorem dX4_change_51 : decode cX4_change 51 = .ok (.aload 4, 2) := by decide +kernel
theorem dX4_change_53 : decode cX4_change 53 = .ok (.iload_n 1, 1) := by decide +kernel
theorem dX4_change_54 : decode cX4_change 54 = .ok (.iload_n 3, 1) := by decide +kernel
theorem dX4_change_55 : decode cX4_change 55 = .ok (.iastore, 1) := by decide +kernel
theorem dX4_change_56 : decode cX4_change 56 = .ok (.iload 5, 2) := by decide +kernel
theorem dX4_change_58 : decode cX4_change 58 = .ok (.ireturn, 1) := by decide +kernel
set_option maxHeartbeats 4000000 in
set_option maxRecDepth 100000 in
theorem g_X4_change {E : fh_E} {M : fh_M} (C : fh_Cx E M cX4_change 6 RX4 ((some FieldType.int)) rm_X4_change) (Hr : fh_Rt E M) (k1 : Nat) (a2 : Int32) (a3 : Int32) (a4 : Int32) (σ5 : fh_S) : fh_Go E M 6 fh_vI 0 [(0, .ref (fh_ad E k1)), (1, .int a2), (2, .int a3), (3, .int a4)] [] σ5 (f_X4_change k1 a2 a3 a4 σ5) := by
  have hok := fh_cok C
  refine go_ob ?_
  refine go_aload_n C 0 rfl rfl dX4_change_0 ?_
  refine go_gr (ci := 4) (j := 0) C fh_in4 rfl (by decide) rfl q_138 dX4_change_1 (fun k6 => ?_)
  refine go_iload_n C 2 rfl rfl dX4_change_4 ?_
  refine go_callVR C (st := []) [.int a3] (m_X0_rowOf E _ hok k6 a3 σ5) (fun _ h => fh_ob_ok h) rfl rfl ⟨q_217, q_218, q_219, q_2, q_220⟩ pd_X0_rowOf rfl ⟨⟨Nat.le_of_ble_eq_true rfl, Nat.le_of_ble_eq_true rfl⟩, rfl, rfl⟩ (Nat.le_of_ble_eq_true rfl) dX4_change_5 (fun o8 σ7 => ?_)
  refine go_on ?_ (fun k9 => ?_)
  · refine go_astoreN C [(4, .null), (0, .ref (fh_ad E k1)), (1, .int a2), (2, .int a3), (3, .int a4)] rfl (by decide) dX4_change_8 ?_
    refine go_aload_n C 1 rfl rfl dX4_change_10 ?_
    refine go_gr (ci := 4) (j := 0) C fh_in4 rfl (by decide) rfl q_138 dX4_change_11 (fun k10 => ?_)
    refine go_iload_n C 2 rfl rfl dX4_change_14 ?_
    refine go_callVI C (st := []) [.int a2] (m_X0_has E _ hok k10 a2 σ7) (fun _ h => fh_ob_ok h) rfl rfl ⟨q_196, q_197, q_198, q_2, q_199⟩ pd_X0_has rfl ⟨⟨Nat.le_of_ble_eq_true rfl, Nat.le_of_ble_eq_true rfl⟩, rfl, rfl⟩ (Nat.le_of_ble_eq_true rfl) dX4_change_15 (fun r12 σ11 => ?_)
    refine go_jn (fun (j16 : fh_S → Option (Int32 × fh_S)) => ∀ (σ13 : fh_S), fh_Go E M 6 fh_vI 38 [(0, .ref (fh_ad E k1))] [] σ13 (j16 σ13)) ?_ (fun j16 hj16 => ?_)
    · intro σ13
      refine go_aload_n C 0 rfl rfl dX4_change_38 ?_
      refine go_ldc C q_175 dX4_change_39 ?_
      refine go_callVI C (st := []) [.int ((-1000001 : Int32))] (m_X4_tell E _ hok k1 ((-1000001 : Int32)) σ13) (fun _ h => fh_ob_ok h) rfl rfl ⟨q_176, q_178, qs_0, q_1, q_179⟩ pd_X4_tell rfl ⟨⟨Nat.le_of_ble_eq_true rfl, Nat.le_of_ble_eq_true rfl⟩, rfl, rfl⟩ (Nat.le_of_ble_eq_true rfl) dX4_change_41 (fun r15 σ14 => ?_)
      exact go_iret C Hr rfl dX4_change_44
    refine go_if_eq (tgt := 38) C dX4_change_18 rfl (fun _ => ?_) (fun _ => ?_)
    · refine go_lv [1] (lv' := [(0, .ref (fh_ad E k1))]) rfl ?_
      exact hj16 σ11
    · refine go_aloadN C 0 rfl dX4_change_21 ?_
      refine go_ifnullN C 38 dX4_change_23 rfl ?_
      refine go_lv [1] (lv' := [(0, .ref (fh_ad E k1))]) rfl ?_
      exact hj16 σ11
  · refine go_astore C [(4, .ref (fh_ad E k9)), (0, .ref (fh_ad E k1)), (1, .int a2), (2, .int a3), (3, .int a4)] rfl (by decide) dX4_change_8 ?_
    refine go_aload_n C 1 rfl rfl dX4_change_10 ?_
    refine go_gr (ci := 4) (j := 0) C fh_in4 rfl (by decide) rfl q_138 dX4_change_11 (fun k17 => ?_)
    refine go_iload_n C 2 rfl rfl dX4_change_14 ?_
    refine go_callVI C (st := []) [.int a2] (m_X0_has E _ hok k17 a2 σ7) (fun _ h => fh_ob_ok h) rfl rfl ⟨q_196, q_197, q_198, q_2, q_199⟩ pd_X0_has rfl ⟨⟨Nat.le_of_ble_eq_true rfl, Nat.le_of_ble_eq_true rfl⟩, rfl, rfl⟩ (Nat.le_of_ble_eq_true rfl) dX4_change_15 (fun r19 σ18 => ?_)
    refine go_jn (fun (j23 : fh_S → Option (Int32 × fh_S)) => ∀ (σ20 : fh_S), fh_Go E M 6 fh_vI 38 [(0, .ref (fh_ad E k1))] [] σ20 (j23 σ20)) ?_ (fun j23 hj23 => ?_)
    · intro σ20
      refine go_aload_n C 0 rfl rfl dX4_change_38 ?_
      refine go_ldc C q_175 dX4_change_39 ?_
      refine go_callVI C (st := []) [.int ((-1000001 : Int32))] (m_X4_tell E _ hok k1 ((-1000001 : Int32)) σ20) (fun _ h => fh_ob_ok h) rfl rfl ⟨q_176, q_178, qs_0, q_1, q_179⟩ pd_X4_tell rfl ⟨⟨Nat.le_of_ble_eq_true rfl, Nat.le_of_ble_eq_true rfl⟩, rfl, rfl⟩ (Nat.le_of_ble_eq_true rfl) dX4_change_41 (fun r22 σ21 => ?_)
      exact go_iret C Hr rfl dX4_change_44
    refine go_if_eq (tgt := 38) C dX4_change_18 rfl (fun _ => ?_) (fun _ => ?_)
    · refine go_lv [1] (lv' := [(0, .ref (fh_ad E k1))]) rfl ?_
      exact hj23 σ18
    · refine go_aload C 0 rfl dX4_change_21 ?_
      refine go_ifnull C dX4_change_23 ?_
      refine go_aload_n C 1 rfl rfl dX4_change_26 ?_
      refine go_gr (ci := 4) (j := 0) C fh_in4 rfl (by decide) rfl q_138 dX4_change_27 (fun k24 => ?_)
      refine go_iload_n C 3 rfl rfl dX4_change_30 ?_
      refine go_iload_n C 4 rfl rfl dX4_change_31 ?_
      refine go_callVI C (st := []) [.int a3, .int a4] (m_X0_mayBecome E _ hok k24 a3 a4 σ18) (fun _ h => fh_ob_ok h) rfl rfl ⟨q_225, q_226, q_227, q_2, q_228⟩ pd_X0_mayBecome rfl ⟨⟨Nat.le_of_ble_eq_true rfl, Nat.le_of_ble_eq_true rfl⟩, rfl, rfl⟩ (Nat.le_of_ble_eq_true rfl) dX4_change_32 (fun r26 σ25 => ?_)
      refine go_if_ne (tgt := 45) C dX4_change_35 rfl (fun _ => ?_) (fun _ => ?_)
      · refine go_aload C 0 rfl dX4_change_45 ?_
        refine go_iload_n C 2 rfl rfl dX4_change_47 ?_
        refine go_iald C dX4_change_48 (fun v27 => ?_)
        refine go_istore C [(5, .int v27), (4, .ref (fh_ad E k9)), (0, .ref (fh_ad E k1)), (1, .int a2), (2, .int a3), (3, .int a4)] rfl (by decide) dX4_change_49 ?_
        refine go_aload C 1 rfl dX4_change_51 ?_
        refine go_iload_n C 3 rfl rfl dX4_change_53 ?_
        refine go_iload_n C 5 rfl rfl dX4_change_54 ?_
        refine go_iast C dX4_change_55 (fun σ28 => ?_)
        refine go_iload C 0 rfl dX4_change_56 ?_
        exact go_iret C Hr rfl dX4_change_58
      · refine go_lv [1] (lv' := [(0, .ref (fh_ad E k1))]) rfl ?_
        exact hj23 σ25
theorem m_X4_change (E : fh_E) (l : Launch) (hok : fh_ok E) (k1 : Nat) (a2 : Int32) (a3 : Int32) (a4 : Int32) (σ5 : fh_S) : fh_Met E l yX4_change cX4_change 6 ((some FieldType.int)) rm_X4_change fh_vI [.ref (fh_ad E k1), .int a2, .int a3, .int a4] σ5 (f_X4_change k1 a2 a3 a4 σ5) := fh_met hok (by decide +kernel) (Nat.le_of_ble_eq_true rfl) (fun M _ C Hr => g_X4_change C Hr k1 a2 a3 a4 σ5)
def f_X4_jog_J24 (k1 : Nat) : fh_S → Option (Int32 × fh_S) := fun σ8 => fh_cb (f_X4_tell k1 ((-1000001 : Int32)) σ8) fun r10 σ9 => some (r10, σ9)
def f_X4_jog (k1 : Nat) (a2 : Int32) (a3 : Int32) (σ4 : fh_S) : Option (Int32 × fh_S) := fh_ob 4 k1 ((fh_gr 4 k1 0).bind fun k5 => fh_cb (f_X0_has k5 a2 σ4) fun r7 σ6 => fh_jn (f_X4_jog_J24 k1) (fun j11 => if r7 = 0 then j11 σ6 else fh_cb (f_X4_isWithin a3 ((-719 : Int32)) ((719 : Int32)) σ6) fun r13 σ12 => if r13 = 0 then j11 σ12 else (fh_gr 4 k1 0).bind fun k14 => fh_cb (f_X0_turn k14 a2 a3 σ12) fun _ σ15 => (fh_gr 4 k1 0).bind fun k16 => (fh_gr 0 k16 1).bind fun k17 => (fh_ld σ15 k17 a2).bind fun v18 => some (v18, σ15)))
abbrev rm_X4_jog : Room := { frames := 3, cells := 0, slots := 0, locals := 64 }
theorem pd_X4_jog : yX4_jog.cls ≠ "java/lang/invoke/MethodHandle" ∧ yX4_jog.cls ≠ "java/lang/invoke/VarHandle" ∧ (parseMethodDescriptor yX4_jog.desc).map (fun d => d.parameters.length) = some 2 := by decide +kernel
theorem dX4_jog_0 : decode cX4_jog 0 = .ok (.aload_n 0, 1) := by decide +kernel
theorem dX4_jog_1 : decode cX4_jog 1 = .ok (.getfield 12, 3) := by decide +kernel
theorem dX4_jog_4 : decode cX4_jog 4 = .ok (.iload_n 1, 1) := by decide +kernel
theorem dX4_jog_5 : decode cX4_jog 5 = .ok (.invokevirtual 70, 3) := by decide +kernel
theorem dX4_jog_8 : decode cX4_jog 8 = .ok (.ifCond .eq 16, 3) := by decide +kernel
theorem dX4_jog_11 : decode cX4_jog 11 = .ok (.iload_n 2, 1) := by decide +kernel
theorem dX4_jog_12 : decode cX4_jog 12 = .ok (.sipush (-719), 3) := by decide +kernel
theorem dX4_jog_15 : decode cX4_jog 15 = .ok (.sipush 719, 3) := by decide +kernel
theorem dX4_jog_18 : decode cX4_jog 18 = .ok (.invokestatic 84, 3) := by decide +kernel
theorem dX4_jog_21 : decode cX4_jog 21 = .ok (.ifCond .ne 10, 3) := by decide +kernel
theorem dX4_jog_24 : decode cX4_jog 24 = .ok (.aload_n 0, 1) := by decide +kernel
theorem dX4_jog_25 : decode cX4_jog 25 = .ok (.ldc 57, 2) := by decide +kernel
theorem dX4_jog_27 : decode cX4_jog 27 = .ok (.invokevirtual 58, 3) := by decide +kernel
theorem dX4_jog_30 : decode cX4_jog 30 = .ok (.ireturn, 1) := by decide +kernel
theorem dX4_jog_31 : decode cX4_jog 31 = .ok (.aload_n 0, 1) := by decide +kernel
theorem dX4_jog_32 : decode cX4_jog 32 = .ok (.getfield 12, 3) := by decide +kernel
theorem dX4_jog_35 : decode cX4_jog 35 = .ok (.iload_n 1, 1) := by decide +kernel
theorem dX4_jog_36 : decode cX4_jog 36 = .ok (.iload_n 2, 1) := by decide +kernel
theorem dX4_jog_37 : decode cX4_jog 37 = .ok (.invokevirtual 88, 3) := by decide +kernel
theorem dX4_jog_40 : decode cX4_jog 40 = .ok (.aload_n 0, 1) := by decide +kernel
theorem dX4_jog_41 : decode cX4_jog 41 = .ok (.getfield 12, 3) := by decide +kernel
theorem dX4_jog_44 : decode cX4_jog 44 = .ok (.getfield 92, 3) := by decide +kernel
theorem dX4_jog_47 : decode cX4_jog 47 = .ok (.iload_n 1, 1) := by decide +kernel
theorem dX4_jog_48 : decode cX4_jog 48 = .ok (.iaload, 1) := by decide +kernel
theorem dX4_jog_49 : decode cX4_jog 49 = .ok (.ireturn, 1) := by decide +kernel
set_option maxHeartbeats 4000000 in
set_option maxRecDepth 100000 in
theorem g_X4_jog {E : fh_E} {M : fh_M} (C : fh_Cx E M cX4_jog 3 RX4 ((some FieldType.int)) rm_X4_jog) (Hr : fh_Rt E M) (k1 : Nat) (a2 : Int32) (a3 : Int32) (σ4 : fh_S) : fh_Go E M 3 fh_vI 0 [(0, .ref (fh_ad E k1)), (1, .int a2), (2, .int a3)] [] σ4 (f_X4_jog k1 a2 a3 σ4) := by
  have hok := fh_cok C
  refine go_ob ?_
  refine go_aload_n C 0 rfl rfl dX4_jog_0 ?_
  refine go_gr (ci := 4) (j := 0) C fh_in4 rfl (by decide) rfl q_138 dX4_jog_1 (fun k5 => ?_)
  refine go_iload_n C 1 rfl rfl dX4_jog_4 ?_
  refine go_callVI C (st := []) [.int a2] (m_X0_has E _ hok k5 a2 σ4) (fun _ h => fh_ob_ok h) rfl rfl ⟨q_196, q_197, q_198, q_2, q_199⟩ pd_X0_has rfl ⟨⟨Nat.le_of_ble_eq_true rfl, Nat.le_of_ble_eq_true rfl⟩, rfl, rfl⟩ (Nat.le_of_ble_eq_true rfl) dX4_jog_5 (fun r7 σ6 => ?_)
  refine go_jn (fun (j11 : fh_S → Option (Int32 × fh_S)) => ∀ (σ8 : fh_S), fh_Go E M 3 fh_vI 24 [(0, .ref (fh_ad E k1))] [] σ8 (j11 σ8)) ?_ (fun j11 hj11 => ?_)
  · intro σ8
    refine go_aload_n C 0 rfl rfl dX4_jog_24 ?_
    refine go_ldc C q_175 dX4_jog_25 ?_
    refine go_callVI C (st := []) [.int ((-1000001 : Int32))] (m_X4_tell E _ hok k1 ((-1000001 : Int32)) σ8) (fun _ h => fh_ob_ok h) rfl rfl ⟨q_176, q_178, qs_0, q_1, q_179⟩ pd_X4_tell rfl ⟨⟨Nat.le_of_ble_eq_true rfl, Nat.le_of_ble_eq_true rfl⟩, rfl, rfl⟩ (Nat.le_of_ble_eq_true rfl) dX4_jog_27 (fun r10 σ9 => ?_)
    exact go_iret C Hr rfl dX4_jog_30
  refine go_if_eq (tgt := 24) C dX4_jog_8 rfl (fun _ => ?_) (fun _ => ?_)
  · refine go_lv [0] (lv' := [(0, .ref (fh_ad E k1))]) rfl ?_
    exact hj11 σ6
  · refine go_iload_n C 2 rfl rfl dX4_jog_11 ?_
    refine go_sipush C (-719 : Int32) dX4_jog_12 rfl ?_
    refine go_sipush C (719 : Int32) dX4_jog_15 rfl ?_
    refine go_callSI C (st := []) [.int a3, .int ((-719 : Int32)), .int ((719 : Int32))] (m_X4_isWithin E _ hok a3 ((-719 : Int32)) ((719 : Int32)) σ6) rfl ⟨q_172, q_173, q_1, q_174⟩ pd_X4_isWithin rfl ⟨⟨Nat.le_of_ble_eq_true rfl, Nat.le_of_ble_eq_true rfl⟩, rfl, rfl⟩ (Nat.le_of_ble_eq_true rfl) dX4_jog_18 (fun r13 σ12 => ?_)
    refine go_if_ne (tgt := 31) C dX4_jog_21 rfl (fun _ => ?_) (fun _ => ?_)
    · refine go_aload_n C 0 rfl rfl dX4_jog_31 ?_
      refine go_gr (ci := 4) (j := 0) C fh_in4 rfl (by decide) rfl q_138 dX4_jog_32 (fun k14 => ?_)
      refine go_iload_n C 1 rfl rfl dX4_jog_35 ?_
      refine go_iload_n C 2 rfl rfl dX4_jog_36 ?_
      refine go_callVU C (st := []) [.int a2, .int a3] (m_X0_turn E _ hok k14 a2 a3 σ12) (fun _ h => fh_ob_ok h) rfl rfl ⟨q_239, q_240, q_241, q_2, q_242⟩ pd_X0_turn rfl ⟨⟨Nat.le_of_ble_eq_true rfl, Nat.le_of_ble_eq_true rfl⟩, rfl, rfl⟩ (Nat.le_of_ble_eq_true rfl) dX4_jog_37 (fun _ σ15 => ?_)
      refine go_aload_n C 0 rfl rfl dX4_jog_40 ?_
      refine go_gr (ci := 4) (j := 0) C fh_in4 rfl (by decide) rfl q_138 dX4_jog_41 (fun k16 => ?_)
      refine go_gr (ci := 0) (j := 1) C fh_in0 rfl (by decide) rfl q_32 dX4_jog_44 (fun k17 => ?_)
      refine go_iload_n C 1 rfl rfl dX4_jog_47 ?_
      refine go_iald C dX4_jog_48 (fun v18 => ?_)
      exact go_iret C Hr rfl dX4_jog_49
    · refine go_lv [0] (lv' := [(0, .ref (fh_ad E k1))]) rfl ?_
      exact hj11 σ12
theorem m_X4_jog (E : fh_E) (l : Launch) (hok : fh_ok E) (k1 : Nat) (a2 : Int32) (a3 : Int32) (σ4 : fh_S) : fh_Met E l yX4_jog cX4_jog 3 ((some FieldType.int)) rm_X4_jog fh_vI [.ref (fh_ad E k1), .int a2, .int a3] σ4 (f_X4_jog k1 a2 a3 σ4) := fh_met hok (by decide +kernel) (Nat.le_of_ble_eq_true rfl) (fun M _ C Hr => g_X4_jog C Hr k1 a2 a3 σ4)
def f_X4_stop_J20 (k1 : Nat) : fh_S → Option (Int32 × fh_S) := fun σ8 => fh_cb (f_X4_tell k1 ((-1000001 : Int32)) σ8) fun r10 σ9 => some (r10, σ9)
def f_X4_stop_J51 : Int32 → fh_S → Option (Int32 × fh_S) := fun x14 σ15 => if x14 = 0 then some ((0 : Int32), σ15) else some ((1 : Int32), σ15)
def f_X4_stop (k1 : Nat) (a2 : Int32) (a3 : Int32) (σ4 : fh_S) : Option (Int32 × fh_S) := fh_ob 4 k1 ((fh_gr 4 k1 0).bind fun k5 => fh_cb (f_X0_has k5 a2 σ4) fun r7 σ6 => fh_jn (f_X4_stop_J20 k1) (fun j11 => if r7 = 0 then j11 σ6 else fh_cb (f_X4_isWithin a3 ((0 : Int32)) ((1 : Int32)) σ6) fun r13 σ12 => if r13 = 0 then j11 σ12 else fh_jn (f_X4_stop_J51) (fun j16 => if a3 = ((1 : Int32)) then (fh_gr 4 k1 0).bind fun k20 => fh_cb (f_X0_freeze k20 a2 σ12) fun r22 σ21 => j16 r22 σ21 else (fh_gr 4 k1 0).bind fun k17 => fh_cb (f_X0_thaw k17 a2 σ12) fun r19 σ18 => j16 r19 σ18)))
abbrev rm_X4_stop : Room := { frames := 2, cells := 0, slots := 0, locals := 44 }
theorem pd_X4_stop : yX4_stop.cls ≠ "java/lang/invoke/MethodHandle" ∧ yX4_stop.cls ≠ "java/lang/invoke/VarHandle" ∧ (parseMethodDescriptor yX4_stop.desc).map (fun d => d.parameters.length) = some 2 := by decide +kernel
theorem dX4_stop_0 : decode cX4_stop 0 = .ok (.aload_n 0, 1) := by decide +kernel
theorem dX4_stop_1 : decode cX4_stop 1 = .ok (.getfield 12, 3) := by decide +kernel
theorem dX4_stop_4 : decode cX4_stop 4 = .ok (.iload_n 1, 1) := by decide +kernel
theorem dX4_stop_5 : decode cX4_stop 5 = .ok (.invokevirtual 70, 3) := by decide +kernel
theorem dX4_stop_8 : decode cX4_stop 8 = .ok (.ifCond .eq 12, 3) := by decide +kernel
theorem dX4_stop_11 : decode cX4_stop 11 = .ok (.iload_n 2, 1) := by decide +kernel
theorem dX4_stop_12 : decode cX4_stop 12 = .ok (.iconst 0, 1) := by decide +kernel
theorem dX4_stop_13 : decode cX4_stop 13 = .ok (.iconst 1, 1) := by decide +kernel
theorem dX4_stop_14 : decode cX4_stop 14 = .ok (.invokestatic 84, 3) := by decide +kernel
theorem dX4_stop_17 : decode cX4_stop 17 = .ok (.ifCond .ne 10, 3) := by decide +kernel
theorem dX4_stop_20 : decode cX4_stop 20 = .ok (.aload_n 0, 1) := by decide +kernel
theorem dX4_stop_21 : decode cX4_stop 21 = .ok (.ldc 57, 2) := by decide +kernel
theorem dX4_stop_23 : decode cX4_stop 23 = .ok (.invokevirtual 58, 3) := by decide +kernel
theorem dX4_stop_26 : decode cX4_stop 26 = .ok (.ireturn, 1) := by decide +kernel
theorem dX4_stop_27 : decode cX4_stop 27 = .ok (.iload_n 2, 1) := by decide +kernel
theorem dX4_stop_28 : decode cX4_stop 28 = .ok (.iconst 1, 1) := by decide +kernel
theorem dX4_stop_29 : decode cX4_stop 29 = .ok (.if_icmp .ne 14, 3) := by decide +kernel
theorem dX4_stop_32 : decode cX4_stop 32 = .ok (.aload_n 0, 1) := by decide +kernel
theorem dX4_stop_33 : decode cX4_stop 33 = .ok (.getfield 12, 3) := by decide +kernel
theorem dX4_stop_36 : decode cX4_stop 36 = .ok (.iload_n 1, 1) := by decide +kernel
theorem dX4_stop_37 : decode cX4_stop 37 = .ok (.invokevirtual 95, 3) := by decide +kernel
theorem dX4_stop_40 : decode cX4_stop 40 = .ok (.goto 11, 3) := by decide +kernel
theorem dX4_stop_43 : decode cX4_stop 43 = .ok (.aload_n 0, 1) := by decide +kernel
theorem dX4_stop_44 : decode cX4_stop 44 = .ok (.getfield 12, 3) := by decide +kernel
theorem dX4_stop_47 : decode cX4_stop 47 = .ok (.iload_n 1, 1) := by decide +kernel
theorem dX4_stop_48 : decode cX4_stop 48 = .ok (.invokevirtual 98, 3) := by decide +kernel
theorem dX4_stop_51 : decode cX4_stop 51 = .ok (.istore_n 3, 1) := by decide +kernel
theorem dX4_stop_52 : decode cX4_stop 52 = .ok (.iload_n 3, 1) := by decide +kernel
theorem dX4_stop_53 : decode cX4_stop 53 = .ok (.ifCond .eq 7, 3) := by decide +kernel
theorem dX4_stop_56 : decode cX4_stop 56 = .ok (.iconst 1, 1) := by decide +kernel
theorem dX4_stop_57 : decode cX4_stop 57 = .ok (.goto 4, 3) := by decide +kernel
theorem dX4_stop_60 : decode cX4_stop 60 = .ok (.iconst 0, 1) := by decide +kernel
theorem dX4_stop_61 : decode cX4_stop 61 = .ok (.ireturn, 1) := by decide +kernel
set_option maxHeartbeats 4000000 in
set_option maxRecDepth 100000 in
theorem g_X4_stop {E : fh_E} {M : fh_M} (C : fh_Cx E M cX4_stop 4 RX4 ((some FieldType.int)) rm_X4_stop) (Hr : fh_Rt E M) (k1 : Nat) (a2 : Int32) (a3 : Int32) (σ4 : fh_S) : fh_Go E M 4 fh_vI 0 [(0, .ref (fh_ad E k1)), (1, .int a2), (2, .int a3)] [] σ4 (f_X4_stop k1 a2 a3 σ4) := by
  have hok := fh_cok C
  refine go_ob ?_
  refine go_aload_n C 0 rfl rfl dX4_stop_0 ?_
  refine go_gr (ci := 4) (j := 0) C fh_in4 rfl (by decide) rfl q_138 dX4_stop_1 (fun k5 => ?_)
  refine go_iload_n C 1 rfl rfl dX4_stop_4 ?_
  refine go_callVI C (st := []) [.int a2] (m_X0_has E _ hok k5 a2 σ4) (fun _ h => fh_ob_ok h) rfl rfl ⟨q_196, q_197, q_198, q_2, q_199⟩ pd_X0_has rfl ⟨⟨Nat.le_of_ble_eq_true rfl, Nat.le_of_ble_eq_true rfl⟩, rfl, rfl⟩ (Nat.le_of_ble_eq_true rfl) dX4_stop_5 (fun r7 σ6 => ?_)
  refine go_jn (fun (j11 : fh_S → Option (Int32 × fh_S)) => ∀ (σ8 : fh_S), fh_Go E M 4 fh_vI 20 [(0, .ref (fh_ad E k1))] [] σ8 (j11 σ8)) ?_ (fun j11 hj11 => ?_)
  · intro σ8
    refine go_aload_n C 0 rfl rfl dX4_stop_20 ?_
    refine go_ldc C q_175 dX4_stop_21 ?_
    refine go_callVI C (st := []) [.int ((-1000001 : Int32))] (m_X4_tell E _ hok k1 ((-1000001 : Int32)) σ8) (fun _ h => fh_ob_ok h) rfl rfl ⟨q_176, q_178, qs_0, q_1, q_179⟩ pd_X4_tell rfl ⟨⟨Nat.le_of_ble_eq_true rfl, Nat.le_of_ble_eq_true rfl⟩, rfl, rfl⟩ (Nat.le_of_ble_eq_true rfl) dX4_stop_23 (fun r10 σ9 => ?_)
    exact go_iret C Hr rfl dX4_stop_26
  refine go_if_eq (tgt := 20) C dX4_stop_8 rfl (fun _ => ?_) (fun _ => ?_)
  · refine go_lv [0] (lv' := [(0, .ref (fh_ad E k1))]) rfl ?_
    exact hj11 σ6
  · refine go_iload_n C 2 rfl rfl dX4_stop_11 ?_
    refine go_iconst C (0 : Int32) dX4_stop_12 rfl ?_
    refine go_iconst C (1 : Int32) dX4_stop_13 rfl ?_
    refine go_callSI C (st := []) [.int a3, .int ((0 : Int32)), .int ((1 : Int32))] (m_X4_isWithin E _ hok a3 ((0 : Int32)) ((1 : Int32)) σ6) rfl ⟨q_172, q_173, q_1, q_174⟩ pd_X4_isWithin rfl ⟨⟨Nat.le_of_ble_eq_true rfl, Nat.le_of_ble_eq_true rfl⟩, rfl, rfl⟩ (Nat.le_of_ble_eq_true rfl) dX4_stop_14 (fun r13 σ12 => ?_)
    refine go_if_ne (tgt := 27) C dX4_stop_17 rfl (fun _ => ?_) (fun _ => ?_)
    · refine go_iload_n C 2 rfl rfl dX4_stop_27 ?_
      refine go_iconst C (1 : Int32) dX4_stop_28 rfl ?_
      refine go_jn (fun (j16 : Int32 → fh_S → Option (Int32 × fh_S)) => ∀ (x14 : Int32) (σ15 : fh_S), fh_Go E M 4 fh_vI 51 [] [.int x14] σ15 (j16 x14 σ15)) ?_ (fun j16 hj16 => ?_)
      · intro x14 σ15
        refine go_istore_n C [(3, .int x14)] rfl rfl (by decide) dX4_stop_51 ?_
        refine go_iload_n C 0 rfl rfl dX4_stop_52 ?_
        refine go_if_eq (tgt := 60) C dX4_stop_53 rfl (fun _ => ?_) (fun _ => ?_)
        · refine go_iconst C (0 : Int32) dX4_stop_60 rfl ?_
          exact go_iret C Hr rfl dX4_stop_61
        · refine go_iconst C (1 : Int32) dX4_stop_56 rfl ?_
          refine go_goto C 61 dX4_stop_57 rfl ?_
          exact go_iret C Hr rfl dX4_stop_61
      refine go_icmp_ne (tgt := 43) C dX4_stop_29 rfl (fun _ => ?_) (fun _ => ?_)
      · refine go_aload_n C 0 rfl rfl dX4_stop_43 ?_
        refine go_gr (ci := 4) (j := 0) C fh_in4 rfl (by decide) rfl q_138 dX4_stop_44 (fun k17 => ?_)
        refine go_iload_n C 1 rfl rfl dX4_stop_47 ?_
        refine go_callVI C (st := []) [.int a2] (m_X0_thaw E _ hok k17 a2 σ12) (fun _ h => fh_ob_ok h) rfl rfl ⟨q_257, q_258, q_259, q_2, q_260⟩ pd_X0_thaw rfl ⟨⟨Nat.le_of_ble_eq_true rfl, Nat.le_of_ble_eq_true rfl⟩, rfl, rfl⟩ (Nat.le_of_ble_eq_true rfl) dX4_stop_48 (fun r19 σ18 => ?_)
        refine go_lv [] (lv' := []) rfl ?_
        exact hj16 r19 σ18
      · refine go_aload_n C 0 rfl rfl dX4_stop_32 ?_
        refine go_gr (ci := 4) (j := 0) C fh_in4 rfl (by decide) rfl q_138 dX4_stop_33 (fun k20 => ?_)
        refine go_iload_n C 1 rfl rfl dX4_stop_36 ?_
        refine go_callVI C (st := []) [.int a2] (m_X0_freeze E _ hok k20 a2 σ12) (fun _ h => fh_ob_ok h) rfl rfl ⟨q_253, q_254, q_255, q_2, q_256⟩ pd_X0_freeze rfl ⟨⟨Nat.le_of_ble_eq_true rfl, Nat.le_of_ble_eq_true rfl⟩, rfl, rfl⟩ (Nat.le_of_ble_eq_true rfl) dX4_stop_37 (fun r22 σ21 => ?_)
        refine go_goto C 51 dX4_stop_40 rfl ?_
        refine go_lv [] (lv' := []) rfl ?_
        exact hj16 r22 σ21
    · refine go_lv [0] (lv' := [(0, .ref (fh_ad E k1))]) rfl ?_
      exact hj11 σ12
theorem m_X4_stop (E : fh_E) (l : Launch) (hok : fh_ok E) (k1 : Nat) (a2 : Int32) (a3 : Int32) (σ4 : fh_S) : fh_Met E l yX4_stop cX4_stop 4 ((some FieldType.int)) rm_X4_stop fh_vI [.ref (fh_ad E k1), .int a2, .int a3] σ4 (f_X4_stop k1 a2 a3 σ4) := fh_met hok (by decide +kernel) (Nat.le_of_ble_eq_true rfl) (fun M _ C Hr => g_X4_stop C Hr k1 a2 a3 σ4)
def f_X4_go (k1 : Nat) (a2 : Int32) (σ3 : fh_S) : Option (Int32 × fh_S) := fh_ob 4 k1 (fh_cb (f_X4_isWithin a2 ((1 : Int32)) ((100 : Int32)) σ3) fun r5 σ4 => if r5 = 0 then fh_cb (f_X4_tell k1 ((-1000001 : Int32)) σ4) fun r15 σ14 => some (r15, σ14) else (fh_gr 4 k1 0).bind fun k6 => (fh_gi σ4 0 k6 10).bind fun v7 => if v7 ≤ (((99999 : Int32)) - a2) then (fh_gr 4 k1 0).bind fun k8 => fh_cb (f_X0_passTicks k8 a2 σ4) fun _ σ9 => (fh_gr 4 k1 0).bind fun k10 => (fh_gi σ9 0 k10 10).bind fun v11 => some (v11, σ9) else fh_cb (f_X4_tell k1 ((-1000005 : Int32)) σ4) fun r13 σ12 => some (r13, σ12))
abbrev rm_X4_go : Room := { frames := 5, cells := 0, slots := 0, locals := 111 }
theorem pd_X4_go : yX4_go.cls ≠ "java/lang/invoke/MethodHandle" ∧ yX4_go.cls ≠ "java/lang/invoke/VarHandle" ∧ (parseMethodDescriptor yX4_go.desc).map (fun d => d.parameters.length) = some 1 := by decide +kernel
theorem dX4_go_0 : decode cX4_go 0 = .ok (.iload_n 1, 1) := by decide +kernel
theorem dX4_go_1 : decode cX4_go 1 = .ok (.iconst 1, 1) := by decide +kernel
theorem dX4_go_2 : decode cX4_go 2 = .ok (.bipush 100, 2) := by decide +kernel
theorem dX4_go_4 : decode cX4_go 4 = .ok (.invokestatic 84, 3) := by decide +kernel
theorem dX4_go_7 : decode cX4_go 7 = .ok (.ifCond .ne 10, 3) := by decide +kernel
theorem dX4_go_10 : decode cX4_go 10 = .ok (.aload_n 0, 1) := by decide +kernel
theorem dX4_go_11 : decode cX4_go 11 = .ok (.ldc 57, 2) := by decide +kernel
theorem dX4_go_13 : decode cX4_go 13 = .ok (.invokevirtual 58, 3) := by decide +kernel
theorem dX4_go_16 : decode cX4_go 16 = .ok (.ireturn, 1) := by decide +kernel
theorem dX4_go_17 : decode cX4_go 17 = .ok (.aload_n 0, 1) := by decide +kernel
theorem dX4_go_18 : decode cX4_go 18 = .ok (.getfield 12, 3) := by decide +kernel
theorem dX4_go_21 : decode cX4_go 21 = .ok (.getfield 101, 3) := by decide +kernel
theorem dX4_go_24 : decode cX4_go 24 = .ok (.ldc 105, 2) := by decide +kernel
theorem dX4_go_26 : decode cX4_go 26 = .ok (.iload_n 1, 1) := by decide +kernel
theorem dX4_go_27 : decode cX4_go 27 = .ok (.isub, 1) := by decide +kernel
theorem dX4_go_28 : decode cX4_go 28 = .ok (.if_icmp .le 10, 3) := by decide +kernel
theorem dX4_go_31 : decode cX4_go 31 = .ok (.aload_n 0, 1) := by decide +kernel
theorem dX4_go_32 : decode cX4_go 32 = .ok (.ldc 106, 2) := by decide +kernel
theorem dX4_go_34 : decode cX4_go 34 = .ok (.invokevirtual 58, 3) := by decide +kernel
theorem dX4_go_37 : decode cX4_go 37 = .ok (.ireturn, 1) := by decide +kernel
theorem dX4_go_38 : decode cX4_go 38 = .ok (.aload_n 0, 1) := by decide +kernel
theorem dX4_go_39 : decode cX4_go 39 = .ok (.getfield 12, 3) := by decide +kernel
theorem dX4_go_42 : decode cX4_go 42 = .ok (.iload_n 1, 1) := by decide +kernel
theorem dX4_go_43 : decode cX4_go 43 = .ok (.invokevirtual 107, 3) := by decide +kernel
theorem dX4_go_46 : decode cX4_go 46 = .ok (.aload_n 0, 1) := by decide +kernel
theorem dX4_go_47 : decode cX4_go 47 = .ok (.getfield 12, 3) := by decide +kernel
theorem dX4_go_50 : decode cX4_go 50 = .ok (.getfield 101, 3) := by decide +kernel
theorem dX4_go_53 : decode cX4_go 53 = .ok (.ireturn, 1) := by decide +kernel
set_option maxHeartbeats 4000000 in
set_option maxRecDepth 100000 in
theorem g_X4_go {E : fh_E} {M : fh_M} (C : fh_Cx E M cX4_go 2 RX4 ((some FieldType.int)) rm_X4_go) (Hr : fh_Rt E M) (k1 : Nat) (a2 : Int32) (σ3 : fh_S) : fh_Go E M 2 fh_vI 0 [(0, .ref (fh_ad E k1)), (1, .int a2)] [] σ3 (f_X4_go k1 a2 σ3) := by
  have hok := fh_cok C
  refine go_ob ?_
  refine go_iload_n C 1 rfl rfl dX4_go_0 ?_
  refine go_iconst C (1 : Int32) dX4_go_1 rfl ?_
  refine go_bipush C (100 : Int32) dX4_go_2 rfl ?_
  refine go_callSI C (st := []) [.int a2, .int ((1 : Int32)), .int ((100 : Int32))] (m_X4_isWithin E _ hok a2 ((1 : Int32)) ((100 : Int32)) σ3) rfl ⟨q_172, q_173, q_1, q_174⟩ pd_X4_isWithin rfl ⟨⟨Nat.le_of_ble_eq_true rfl, Nat.le_of_ble_eq_true rfl⟩, rfl, rfl⟩ (Nat.le_of_ble_eq_true rfl) dX4_go_4 (fun r5 σ4 => ?_)
  refine go_if_ne (tgt := 17) C dX4_go_7 rfl (fun _ => ?_) (fun _ => ?_)
  · refine go_aload_n C 0 rfl rfl dX4_go_17 ?_
    refine go_gr (ci := 4) (j := 0) C fh_in4 rfl (by decide) rfl q_138 dX4_go_18 (fun k6 => ?_)
    refine go_gi (ci := 0) (j := 10) C fh_in0 rfl (by decide) rfl q_50 dX4_go_21 (fun v7 => ?_)
    refine go_ldc C q_265 dX4_go_24 ?_
    refine go_iload_n C 1 rfl rfl dX4_go_26 ?_
    refine go_isub C dX4_go_27 ?_
    refine go_icmp_le (tgt := 38) C dX4_go_28 rfl (fun _ => ?_) (fun _ => ?_)
    · refine go_aload_n C 0 rfl rfl dX4_go_38 ?_
      refine go_gr (ci := 4) (j := 0) C fh_in4 rfl (by decide) rfl q_138 dX4_go_39 (fun k8 => ?_)
      refine go_iload_n C 1 rfl rfl dX4_go_42 ?_
      refine go_callVU C (st := []) [.int a2] (m_X0_passTicks E _ hok k8 a2 σ4) (fun _ h => fh_ob_ok h) rfl rfl ⟨q_267, q_268, q_269, q_2, q_270⟩ pd_X0_passTicks rfl ⟨⟨Nat.le_of_ble_eq_true rfl, Nat.le_of_ble_eq_true rfl⟩, rfl, rfl⟩ (Nat.le_of_ble_eq_true rfl) dX4_go_43 (fun _ σ9 => ?_)
      refine go_aload_n C 0 rfl rfl dX4_go_46 ?_
      refine go_gr (ci := 4) (j := 0) C fh_in4 rfl (by decide) rfl q_138 dX4_go_47 (fun k10 => ?_)
      refine go_gi (ci := 0) (j := 10) C fh_in0 rfl (by decide) rfl q_50 dX4_go_50 (fun v11 => ?_)
      exact go_iret C Hr rfl dX4_go_53
    · refine go_aload_n C 0 rfl rfl dX4_go_31 ?_
      refine go_ldc C q_266 dX4_go_32 ?_
      refine go_callVI C (st := []) [.int ((-1000005 : Int32))] (m_X4_tell E _ hok k1 ((-1000005 : Int32)) σ4) (fun _ h => fh_ob_ok h) rfl rfl ⟨q_176, q_178, qs_0, q_1, q_179⟩ pd_X4_tell rfl ⟨⟨Nat.le_of_ble_eq_true rfl, Nat.le_of_ble_eq_true rfl⟩, rfl, rfl⟩ (Nat.le_of_ble_eq_true rfl) dX4_go_34 (fun r13 σ12 => ?_)
      exact go_iret C Hr rfl dX4_go_37
  · refine go_aload_n C 0 rfl rfl dX4_go_10 ?_
    refine go_ldc C q_175 dX4_go_11 ?_
    refine go_callVI C (st := []) [.int ((-1000001 : Int32))] (m_X4_tell E _ hok k1 ((-1000001 : Int32)) σ4) (fun _ h => fh_ob_ok h) rfl rfl ⟨q_176, q_178, qs_0, q_1, q_179⟩ pd_X4_tell rfl ⟨⟨Nat.le_of_ble_eq_true rfl, Nat.le_of_ble_eq_true rfl⟩, rfl, rfl⟩ (Nat.le_of_ble_eq_true rfl) dX4_go_13 (fun r15 σ14 => ?_)
    exact go_iret C Hr rfl dX4_go_16
theorem m_X4_go (E : fh_E) (l : Launch) (hok : fh_ok E) (k1 : Nat) (a2 : Int32) (σ3 : fh_S) : fh_Met E l yX4_go cX4_go 2 ((some FieldType.int)) rm_X4_go fh_vI [.ref (fh_ad E k1), .int a2] σ3 (f_X4_go k1 a2 σ3) := fh_met hok (by decide +kernel) (Nat.le_of_ble_eq_true rfl) (fun M _ C Hr => g_X4_go C Hr k1 a2 σ3)
def f_X4_now (k1 : Nat) (a2 : Int32) (σ3 : fh_S) : Option (Int32 × fh_S) := fh_ob 4 k1 (if a2 = (0 : Int32) then (fh_gr 4 k1 0).bind fun k4 => (fh_gi σ3 0 k4 10).bind fun v5 => some (v5, σ3) else if a2 = (1 : Int32) then (fh_gr 4 k1 0).bind fun k7 => fh_cb (f_X0_stoppedSet k7 σ3) fun r9 σ8 => some (r9, σ8) else if a2 = (2 : Int32) then (fh_gr 4 k1 0).bind fun k11 => fh_cb (f_X0_stillSet k11 σ3) fun r13 σ12 => some (r13, σ12) else if a2 = (3 : Int32) then (fh_gr 4 k1 0).bind fun k15 => fh_cb (f_X0_ownMasterSet k15 σ3) fun r17 σ16 => some (r17, σ16) else if a2 = (4 : Int32) then (fh_gr 4 k1 0).bind fun k19 => (fh_gr 4 k1 0).bind fun k20 => (fh_gr 0 k20 3).bind fun k21 => fh_cb (f_X0_sumOf k19 k21 σ3) fun r23 σ22 => some (r23, σ22) else if a2 = (5 : Int32) then (fh_gr 4 k1 0).bind fun k25 => fh_cb (f_X0_alikeSet k25 σ3) fun r27 σ26 => fh_cb (f_J6_bitCount_0f7a4 r27 σ26) fun r29 σ28 => (fh_gr 4 k1 0).bind fun k30 => (fh_gi σ28 0 k30 9).bind fun v31 => if r29 = v31 then some ((1 : Int32), σ28) else some ((0 : Int32), σ28) else fh_cb (f_X4_tell k1 ((-1000001 : Int32)) σ3) fun r34 σ33 => some (r34, σ33))
abbrev rm_X4_now : Room := { frames := 2, cells := 0, slots := 0, locals := 49 }
theorem pd_X4_now : yX4_now.cls ≠ "java/lang/invoke/MethodHandle" ∧ yX4_now.cls ≠ "java/lang/invoke/VarHandle" ∧ (parseMethodDescriptor yX4_now.desc).map (fun d => d.parameters.length) = some 1 := by decide +kernel
theorem dX4_now_0 : decode cX4_now 0 = .ok (.iload_n 1, 1) := by decide +kernel
theorem dX4_now_1 : decode cX4_now 1 = .ok (.tableswitch 112 0 5 #[39, 47, 55, 63, 71, 86], 39) := by decide +kernel
theorem dX4_now_40 : decode cX4_now 40 = .ok (.aload_n 0, 1) := by decide +kernel
theorem dX4_now_41 : decode cX4_now 41 = .ok (.getfield 12, 3) := by decide +kernel
theorem dX4_now_44 : decode cX4_now 44 = .ok (.getfield 101, 3) := by decide +kernel
theorem dX4_now_47 : decode cX4_now 47 = .ok (.ireturn, 1) := by decide +kernel
theorem dX4_now_48 : decode cX4_now 48 = .ok (.aload_n 0, 1) := by decide +kernel
theorem dX4_now_49 : decode cX4_now 49 = .ok (.getfield 12, 3) := by decide +kernel
theorem dX4_now_52 : decode cX4_now 52 = .ok (.invokevirtual 111, 3) := by decide +kernel
theorem dX4_now_55 : decode cX4_now 55 = .ok (.ireturn, 1) := by decide +kernel
theorem dX4_now_56 : decode cX4_now 56 = .ok (.aload_n 0, 1) := by decide +kernel
theorem dX4_now_57 : decode cX4_now 57 = .ok (.getfield 12, 3) := by decide +kernel
theorem dX4_now_60 : decode cX4_now 60 = .ok (.invokevirtual 115, 3) := by decide +kernel
theorem dX4_now_63 : decode cX4_now 63 = .ok (.ireturn, 1) := by decide +kernel
theorem dX4_now_64 : decode cX4_now 64 = .ok (.aload_n 0, 1) := by decide +kernel
theorem dX4_now_65 : decode cX4_now 65 = .ok (.getfield 12, 3) := by decide +kernel
theorem dX4_now_68 : decode cX4_now 68 = .ok (.invokevirtual 118, 3) := by decide +kernel
theorem dX4_now_71 : decode cX4_now 71 = .ok (.ireturn, 1) := by decide +kernel
theorem dX4_now_72 : decode cX4_now 72 = .ok (.aload_n 0, 1) := by decide +kernel
theorem dX4_now_73 : decode cX4_now 73 = .ok (.getfield 12, 3) := by decide +kernel
theorem dX4_now_76 : decode cX4_now 76 = .ok (.aload_n 0, 1) := by decide +kernel
theorem dX4_now_77 : decode cX4_now 77 = .ok (.getfield 12, 3) := by decide +kernel
theorem dX4_now_80 : decode cX4_now 80 = .ok (.getfield 121, 3) := by decide +kernel
theorem dX4_now_83 : decode cX4_now 83 = .ok (.invokevirtual 124, 3) := by decide +kernel
theorem dX4_now_86 : decode cX4_now 86 = .ok (.ireturn, 1) := by decide +kernel
theorem dX4_now_87 : decode cX4_now 87 = .ok (.aload_n 0, 1) := by decide +kernel
theorem dX4_now_88 : decode cX4_now 88 = .ok (.getfield 12, 3) := by decide +kernel
theorem dX4_now_91 : decode cX4_now 91 = .ok (.invokevirtual 128, 3) := by decide +kernel
theorem dX4_now_94 : decode cX4_now 94 = .ok (.invokestatic 131, 3) := by decide +kernel
theorem dX4_now_97 : decode cX4_now 97 = .ok (.aload_n 0, 1) := by decide +kernel
theorem dX4_now_98 : decode cX4_now 98 = .ok (.getfield 12, 3) := by decide +kernel
theorem dX4_now_101 : decode cX4_now 101 = .ok (.getfield 136, 3) := by decide +kernel
theorem dX4_now_104 : decode cX4_now 104 = .ok (.if_icmp .ne 7, 3) := by decide +kernel
theorem dX4_now_107 : decode cX4_now 107 = .ok (.iconst 1, 1) := by decide +kernel
theorem dX4_now_108 : decode cX4_now 108 = .ok (.goto 4, 3) := by decide +kernel
theorem dX4_now_111 : decode cX4_now 111 = .ok (.iconst 0, 1) := by decide +kernel
theorem dX4_now_112 : decode cX4_now 112 = .ok (.ireturn, 1) := by decide +kernel
theorem dX4_now_113 : decode cX4_now 113 = .ok (.aload_n 0, 1) := by decide +kernel
theorem dX4_now_114 : decode cX4_now 114 = .ok (.ldc 57, 2) := by decide +kernel
theorem dX4_now_116 : decode cX4_now 116 = .ok (.invokevirtual 58, 3) := by decide +kernel
theorem dX4_now_119 : decode cX4_now 119 = .ok (.ireturn, 1) := by decide +kernel
set_option maxHeartbeats 4000000 in
set_option maxRecDepth 100000 in
theorem g_X4_now {E : fh_E} {M : fh_M} (C : fh_Cx E M cX4_now 2 RX4 ((some FieldType.int)) rm_X4_now) (Hr : fh_Rt E M) (k1 : Nat) (a2 : Int32) (σ3 : fh_S) : fh_Go E M 2 fh_vI 0 [(0, .ref (fh_ad E k1)), (1, .int a2)] [] σ3 (f_X4_now k1 a2 σ3) := by
  have hok := fh_cok C
  refine go_ob ?_
  refine go_iload_n C 1 rfl rfl dX4_now_0 ?_
  refine go_sw C (0 : Int32) 40 dX4_now_1 (by decide) (by decide) rfl rfl ?_ (fun hn6 => ?_)
  · refine go_aload_n C 0 rfl rfl dX4_now_40 ?_
    refine go_gr (ci := 4) (j := 0) C fh_in4 rfl (by decide) rfl q_138 dX4_now_41 (fun k4 => ?_)
    refine go_gi (ci := 0) (j := 10) C fh_in0 rfl (by decide) rfl q_50 dX4_now_44 (fun v5 => ?_)
    exact go_iret C Hr rfl dX4_now_47
  refine go_sw C (1 : Int32) 48 dX4_now_1 (by decide) (by decide) rfl rfl ?_ (fun hn10 => ?_)
  · refine go_aload_n C 0 rfl rfl dX4_now_48 ?_
    refine go_gr (ci := 4) (j := 0) C fh_in4 rfl (by decide) rfl q_138 dX4_now_49 (fun k7 => ?_)
    refine go_callVI C (st := []) [] (m_X0_stoppedSet E _ hok k7 σ3) (fun _ h => fh_ob_ok h) rfl rfl ⟨q_282, q_283, q_284, q_2, q_285⟩ pd_X0_stoppedSet rfl ⟨⟨Nat.le_of_ble_eq_true rfl, Nat.le_of_ble_eq_true rfl⟩, rfl, rfl⟩ (Nat.le_of_ble_eq_true rfl) dX4_now_52 (fun r9 σ8 => ?_)
    exact go_iret C Hr rfl dX4_now_55
  refine go_sw C (2 : Int32) 56 dX4_now_1 (by decide) (by decide) rfl rfl ?_ (fun hn14 => ?_)
  · refine go_aload_n C 0 rfl rfl dX4_now_56 ?_
    refine go_gr (ci := 4) (j := 0) C fh_in4 rfl (by decide) rfl q_138 dX4_now_57 (fun k11 => ?_)
    refine go_callVI C (st := []) [] (m_X0_stillSet E _ hok k11 σ3) (fun _ h => fh_ob_ok h) rfl rfl ⟨q_290, q_291, q_292, q_2, q_293⟩ pd_X0_stillSet rfl ⟨⟨Nat.le_of_ble_eq_true rfl, Nat.le_of_ble_eq_true rfl⟩, rfl, rfl⟩ (Nat.le_of_ble_eq_true rfl) dX4_now_60 (fun r13 σ12 => ?_)
    exact go_iret C Hr rfl dX4_now_63
  refine go_sw C (3 : Int32) 64 dX4_now_1 (by decide) (by decide) rfl rfl ?_ (fun hn18 => ?_)
  · refine go_aload_n C 0 rfl rfl dX4_now_64 ?_
    refine go_gr (ci := 4) (j := 0) C fh_in4 rfl (by decide) rfl q_138 dX4_now_65 (fun k15 => ?_)
    refine go_callVI C (st := []) [] (m_X0_ownMasterSet E _ hok k15 σ3) (fun _ h => fh_ob_ok h) rfl rfl ⟨q_294, q_295, q_296, q_2, q_297⟩ pd_X0_ownMasterSet rfl ⟨⟨Nat.le_of_ble_eq_true rfl, Nat.le_of_ble_eq_true rfl⟩, rfl, rfl⟩ (Nat.le_of_ble_eq_true rfl) dX4_now_68 (fun r17 σ16 => ?_)
    exact go_iret C Hr rfl dX4_now_71
  refine go_sw C (4 : Int32) 72 dX4_now_1 (by decide) (by decide) rfl rfl ?_ (fun hn24 => ?_)
  · refine go_aload_n C 0 rfl rfl dX4_now_72 ?_
    refine go_gr (ci := 4) (j := 0) C fh_in4 rfl (by decide) rfl q_138 dX4_now_73 (fun k19 => ?_)
    refine go_aload_n C 0 rfl rfl dX4_now_76 ?_
    refine go_gr (ci := 4) (j := 0) C fh_in4 rfl (by decide) rfl q_138 dX4_now_77 (fun k20 => ?_)
    refine go_gr (ci := 0) (j := 3) C fh_in0 rfl (by decide) rfl q_38 dX4_now_80 (fun k21 => ?_)
    refine go_callVI C (st := []) [.ref (fh_ad E k21)] (m_X0_sumOf E _ hok k19 k21 σ3) (fun _ h => fh_ob_ok h) rfl rfl ⟨q_298, q_299, q_300, q_2, q_301⟩ pd_X0_sumOf rfl ⟨⟨Nat.le_of_ble_eq_true rfl, Nat.le_of_ble_eq_true rfl⟩, rfl, rfl⟩ (Nat.le_of_ble_eq_true rfl) dX4_now_83 (fun r23 σ22 => ?_)
    exact go_iret C Hr rfl dX4_now_86
  refine go_sw C (5 : Int32) 87 dX4_now_1 (by decide) (by decide) rfl rfl ?_ (fun hn32 => ?_)
  · refine go_aload_n C 0 rfl rfl dX4_now_87 ?_
    refine go_gr (ci := 4) (j := 0) C fh_in4 rfl (by decide) rfl q_138 dX4_now_88 (fun k25 => ?_)
    refine go_callVI C (st := []) [] (m_X0_alikeSet E _ hok k25 σ3) (fun _ h => fh_ob_ok h) rfl rfl ⟨q_302, q_303, q_304, q_2, q_305⟩ pd_X0_alikeSet rfl ⟨⟨Nat.le_of_ble_eq_true rfl, Nat.le_of_ble_eq_true rfl⟩, rfl, rfl⟩ (Nat.le_of_ble_eq_true rfl) dX4_now_91 (fun r27 σ26 => ?_)
    refine go_callSI C (st := []) [.int r27] (m_J6_bitCount_0f7a4 E _ hok r27 σ26) rfl ⟨q_312, q_307, q_8, q_308⟩ pd_J6_bitCount_0f7a4 rfl ⟨⟨Nat.le_of_ble_eq_true rfl, Nat.le_of_ble_eq_true rfl⟩, rfl, rfl⟩ (Nat.le_of_ble_eq_true rfl) dX4_now_94 (fun r29 σ28 => ?_)
    refine go_aload_n C 0 rfl rfl dX4_now_97 ?_
    refine go_gr (ci := 4) (j := 0) C fh_in4 rfl (by decide) rfl q_138 dX4_now_98 (fun k30 => ?_)
    refine go_gi (ci := 0) (j := 9) C fh_in0 rfl (by decide) rfl q_48 dX4_now_101 (fun v31 => ?_)
    refine go_icmp_ne (tgt := 111) C dX4_now_104 rfl (fun _ => ?_) (fun _ => ?_)
    · refine go_iconst C (0 : Int32) dX4_now_111 rfl ?_
      exact go_iret C Hr rfl dX4_now_112
    · refine go_iconst C (1 : Int32) dX4_now_107 rfl ?_
      refine go_goto C 112 dX4_now_108 rfl ?_
      exact go_iret C Hr rfl dX4_now_112
  refine go_swd C 113 dX4_now_1 (by have hh0 := fh_ne (z := 0) hn6 (by decide); have hh1 := fh_ne (z := 1) hn10 (by decide); have hh2 := fh_ne (z := 2) hn14 (by decide); have hh3 := fh_ne (z := 3) hn18 (by decide); have hh4 := fh_ne (z := 4) hn24 (by decide); have hh5 := fh_ne (z := 5) hn32 (by decide); omega) rfl ?_
  refine go_aload_n C 0 rfl rfl dX4_now_113 ?_
  refine go_ldc C q_175 dX4_now_114 ?_
  refine go_callVI C (st := []) [.int ((-1000001 : Int32))] (m_X4_tell E _ hok k1 ((-1000001 : Int32)) σ3) (fun _ h => fh_ob_ok h) rfl rfl ⟨q_176, q_178, qs_0, q_1, q_179⟩ pd_X4_tell rfl ⟨⟨Nat.le_of_ble_eq_true rfl, Nat.le_of_ble_eq_true rfl⟩, rfl, rfl⟩ (Nat.le_of_ble_eq_true rfl) dX4_now_116 (fun r34 σ33 => ?_)
  exact go_iret C Hr rfl dX4_now_119
theorem m_X4_now (E : fh_E) (l : Launch) (hok : fh_ok E) (k1 : Nat) (a2 : Int32) (σ3 : fh_S) : fh_Met E l yX4_now cX4_now 2 ((some FieldType.int)) rm_X4_now fh_vI [.ref (fh_ad E k1), .int a2] σ3 (f_X4_now k1 a2 σ3) := fh_met hok (by decide +kernel) (Nat.le_of_ble_eq_true rfl) (fun M _ C Hr => g_X4_now C Hr k1 a2 σ3)
def f_X4_way (k1 : Nat) (a2 : Int32) (σ3 : fh_S) : Option (Int32 × fh_S) := fh_ob 4 k1 ((fh_gr 4 k1 0).bind fun k4 => fh_cb (f_X0_has k4 a2 σ3) fun r6 σ5 => if r6 = 0 then fh_cb (f_X4_tell k1 ((-1000001 : Int32)) σ5) fun r8 σ7 => some (r8, σ7) else (fh_gr 4 k1 0).bind fun k9 => fh_cb (f_X0_waySet k9 a2 σ5) fun r11 σ10 => some (r11, σ10))
abbrev rm_X4_way : Room := { frames := 2, cells := 0, slots := 0, locals := 44 }
theorem pd_X4_way : yX4_way.cls ≠ "java/lang/invoke/MethodHandle" ∧ yX4_way.cls ≠ "java/lang/invoke/VarHandle" ∧ (parseMethodDescriptor yX4_way.desc).map (fun d => d.parameters.length) = some 1 := by decide +kernel
theorem dX4_way_0 : decode cX4_way 0 = .ok (.aload_n 0, 1) := by decide +kernel
theorem dX4_way_1 : decode cX4_way 1 = .ok (.getfield 12, 3) := by decide +kernel
theorem dX4_way_4 : decode cX4_way 4 = .ok (.iload_n 1, 1) := by decide +kernel
theorem dX4_way_5 : decode cX4_way 5 = .ok (.invokevirtual 70, 3) := by decide +kernel
theorem dX4_way_8 : decode cX4_way 8 = .ok (.ifCond .eq 14, 3) := by decide +kernel
theorem dX4_way_11 : decode cX4_way 11 = .ok (.aload_n 0, 1) := by decide +kernel
theorem dX4_way_12 : decode cX4_way 12 = .ok (.getfield 12, 3) := by decide +kernel
theorem dX4_way_15 : decode cX4_way 15 = .ok (.iload_n 1, 1) := by decide +kernel
theorem dX4_way_16 : decode cX4_way 16 = .ok (.invokevirtual 139, 3) := by decide +kernel
theorem dX4_way_19 : decode cX4_way 19 = .ok (.goto 9, 3) := by decide +kernel
theorem dX4_way_22 : decode cX4_way 22 = .ok (.aload_n 0, 1) := by decide +kernel
theorem dX4_way_23 : decode cX4_way 23 = .ok (.ldc 57, 2) := by decide +kernel
theorem dX4_way_25 : decode cX4_way 25 = .ok (.invokevirtual 58, 3) := by decide +kernel
theorem dX4_way_28 : decode cX4_way 28 = .ok (.ireturn, 1) := by decide +kernel
set_option maxHeartbeats 4000000 in
set_option maxRecDepth 100000 in
theorem g_X4_way {E : fh_E} {M : fh_M} (C : fh_Cx E M cX4_way 2 RX4 ((some FieldType.int)) rm_X4_way) (Hr : fh_Rt E M) (k1 : Nat) (a2 : Int32) (σ3 : fh_S) : fh_Go E M 2 fh_vI 0 [(0, .ref (fh_ad E k1)), (1, .int a2)] [] σ3 (f_X4_way k1 a2 σ3) := by
  have hok := fh_cok C
  refine go_ob ?_
  refine go_aload_n C 0 rfl rfl dX4_way_0 ?_
  refine go_gr (ci := 4) (j := 0) C fh_in4 rfl (by decide) rfl q_138 dX4_way_1 (fun k4 => ?_)
  refine go_iload_n C 1 rfl rfl dX4_way_4 ?_
  refine go_callVI C (st := []) [.int a2] (m_X0_has E _ hok k4 a2 σ3) (fun _ h => fh_ob_ok h) rfl rfl ⟨q_196, q_197, q_198, q_2, q_199⟩ pd_X0_has rfl ⟨⟨Nat.le_of_ble_eq_true rfl, Nat.le_of_ble_eq_true rfl⟩, rfl, rfl⟩ (Nat.le_of_ble_eq_true rfl) dX4_way_5 (fun r6 σ5 => ?_)
  refine go_if_eq (tgt := 22) C dX4_way_8 rfl (fun _ => ?_) (fun _ => ?_)
  · refine go_aload_n C 0 rfl rfl dX4_way_22 ?_
    refine go_ldc C q_175 dX4_way_23 ?_
    refine go_callVI C (st := []) [.int ((-1000001 : Int32))] (m_X4_tell E _ hok k1 ((-1000001 : Int32)) σ5) (fun _ h => fh_ob_ok h) rfl rfl ⟨q_176, q_178, qs_0, q_1, q_179⟩ pd_X4_tell rfl ⟨⟨Nat.le_of_ble_eq_true rfl, Nat.le_of_ble_eq_true rfl⟩, rfl, rfl⟩ (Nat.le_of_ble_eq_true rfl) dX4_way_25 (fun r8 σ7 => ?_)
    exact go_iret C Hr rfl dX4_way_28
  · refine go_aload_n C 0 rfl rfl dX4_way_11 ?_
    refine go_gr (ci := 4) (j := 0) C fh_in4 rfl (by decide) rfl q_138 dX4_way_12 (fun k9 => ?_)
    refine go_iload_n C 1 rfl rfl dX4_way_15 ?_
    refine go_callVI C (st := []) [.int a2] (m_X0_waySet E _ hok k9 a2 σ5) (fun _ h => fh_ob_ok h) rfl rfl ⟨q_317, q_318, q_319, q_2, q_320⟩ pd_X0_waySet rfl ⟨⟨Nat.le_of_ble_eq_true rfl, Nat.le_of_ble_eq_true rfl⟩, rfl, rfl⟩ (Nat.le_of_ble_eq_true rfl) dX4_way_16 (fun r11 σ10 => ?_)
    refine go_goto C 28 dX4_way_19 rfl ?_
    exact go_iret C Hr rfl dX4_way_28
theorem m_X4_way (E : fh_E) (l : Launch) (hok : fh_ok E) (k1 : Nat) (a2 : Int32) (σ3 : fh_S) : fh_Met E l yX4_way cX4_way 2 ((some FieldType.int)) rm_X4_way fh_vI [.ref (fh_ad E k1), .int a2] σ3 (f_X4_way k1 a2 σ3) := fh_met hok (by decide +kernel) (Nat.le_of_ble_eq_true rfl) (fun M _ C Hr => g_X4_way C Hr k1 a2 σ3)
def f_X4_ring (k1 : Nat) (a2 : Int32) (σ3 : fh_S) : Option (Int32 × fh_S) := fh_ob 4 k1 ((fh_gr 4 k1 0).bind fun k4 => fh_cb (f_X0_has k4 a2 σ3) fun r6 σ5 => if r6 = 0 then fh_cb (f_X4_tell k1 ((-1000001 : Int32)) σ5) fun r8 σ7 => some (r8, σ7) else (fh_gr 4 k1 0).bind fun k9 => fh_cb (f_X0_ringSet k9 a2 σ5) fun r11 σ10 => some (r11, σ10))
abbrev rm_X4_ring : Room := { frames := 2, cells := 0, slots := 0, locals := 47 }
theorem pd_X4_ring : yX4_ring.cls ≠ "java/lang/invoke/MethodHandle" ∧ yX4_ring.cls ≠ "java/lang/invoke/VarHandle" ∧ (parseMethodDescriptor yX4_ring.desc).map (fun d => d.parameters.length) = some 1 := by decide +kernel
theorem dX4_ring_0 : decode cX4_ring 0 = .ok (.aload_n 0, 1) := by decide +kernel
theorem dX4_ring_1 : decode cX4_ring 1 = .ok (.getfield 12, 3) := by decide +kernel
theorem dX4_ring_4 : decode cX4_ring 4 = .ok (.iload_n 1, 1) := by decide +kernel
theorem dX4_ring_5 : decode cX4_ring 5 = .ok (.invokevirtual 70, 3) := by decide +kernel
theorem dX4_ring_8 : decode cX4_ring 8 = .ok (.ifCond .eq 14, 3) := by decide +kernel
theorem dX4_ring_11 : decode cX4_ring 11 = .ok (.aload_n 0, 1) := by decide +kernel
theorem dX4_ring_12 : decode cX4_ring 12 = .ok (.getfield 12, 3) := by decide +kernel
theorem dX4_ring_15 : decode cX4_ring 15 = .ok (.iload_n 1, 1) := by decide +kernel
theorem dX4_ring_16 : decode cX4_ring 16 = .ok (.invokevirtual 142, 3) := by decide +kernel
theorem dX4_ring_19 : decode cX4_ring 19 = .ok (.goto 9, 3) := by decide +kernel
theorem dX4_ring_22 : decode cX4_ring 22 = .ok (.aload_n 0, 1) := by decide +kernel
theorem dX4_ring_23 : decode cX4_ring 23 = .ok (.ldc 57, 2) := by decide +kernel
theorem dX4_ring_25 : decode cX4_ring 25 = .ok (.invokevirtual 58, 3) := by decide +kernel
theorem dX4_ring_28 : decode cX4_ring 28 = .ok (.ireturn, 1) := by decide +kernel
set_option maxHeartbeats 4000000 in
set_option maxRecDepth 100000 in
theorem g_X4_ring {E : fh_E} {M : fh_M} (C : fh_Cx E M cX4_ring 2 RX4 ((some FieldType.int)) rm_X4_ring) (Hr : fh_Rt E M) (k1 : Nat) (a2 : Int32) (σ3 : fh_S) : fh_Go E M 2 fh_vI 0 [(0, .ref (fh_ad E k1)), (1, .int a2)] [] σ3 (f_X4_ring k1 a2 σ3) := by
  have hok := fh_cok C
  refine go_ob ?_
  refine go_aload_n C 0 rfl rfl dX4_ring_0 ?_
  refine go_gr (ci := 4) (j := 0) C fh_in4 rfl (by decide) rfl q_138 dX4_ring_1 (fun k4 => ?_)
  refine go_iload_n C 1 rfl rfl dX4_ring_4 ?_
  refine go_callVI C (st := []) [.int a2] (m_X0_has E _ hok k4 a2 σ3) (fun _ h => fh_ob_ok h) rfl rfl ⟨q_196, q_197, q_198, q_2, q_199⟩ pd_X0_has rfl ⟨⟨Nat.le_of_ble_eq_true rfl, Nat.le_of_ble_eq_true rfl⟩, rfl, rfl⟩ (Nat.le_of_ble_eq_true rfl) dX4_ring_5 (fun r6 σ5 => ?_)
  refine go_if_eq (tgt := 22) C dX4_ring_8 rfl (fun _ => ?_) (fun _ => ?_)
  · refine go_aload_n C 0 rfl rfl dX4_ring_22 ?_
    refine go_ldc C q_175 dX4_ring_23 ?_
    refine go_callVI C (st := []) [.int ((-1000001 : Int32))] (m_X4_tell E _ hok k1 ((-1000001 : Int32)) σ5) (fun _ h => fh_ob_ok h) rfl rfl ⟨q_176, q_178, qs_0, q_1, q_179⟩ pd_X4_tell rfl ⟨⟨Nat.le_of_ble_eq_true rfl, Nat.le_of_ble_eq_true rfl⟩, rfl, rfl⟩ (Nat.le_of_ble_eq_true rfl) dX4_ring_25 (fun r8 σ7 => ?_)
    exact go_iret C Hr rfl dX4_ring_28
  · refine go_aload_n C 0 rfl rfl dX4_ring_11 ?_
    refine go_gr (ci := 4) (j := 0) C fh_in4 rfl (by decide) rfl q_138 dX4_ring_12 (fun k9 => ?_)
    refine go_iload_n C 1 rfl rfl dX4_ring_15 ?_
    refine go_callVI C (st := []) [.int a2] (m_X0_ringSet E _ hok k9 a2 σ5) (fun _ h => fh_ob_ok h) rfl rfl ⟨q_325, q_326, q_327, q_2, q_328⟩ pd_X0_ringSet rfl ⟨⟨Nat.le_of_ble_eq_true rfl, Nat.le_of_ble_eq_true rfl⟩, rfl, rfl⟩ (Nat.le_of_ble_eq_true rfl) dX4_ring_16 (fun r11 σ10 => ?_)
    refine go_goto C 28 dX4_ring_19 rfl ?_
    exact go_iret C Hr rfl dX4_ring_28
theorem m_X4_ring (E : fh_E) (l : Launch) (hok : fh_ok E) (k1 : Nat) (a2 : Int32) (σ3 : fh_S) : fh_Met E l yX4_ring cX4_ring 2 ((some FieldType.int)) rm_X4_ring fh_vI [.ref (fh_ad E k1), .int a2] σ3 (f_X4_ring k1 a2 σ3) := fh_met hok (by decide +kernel) (Nat.le_of_ble_eq_true rfl) (fun M _ C Hr => g_X4_ring C Hr k1 a2 σ3)
def f_X4_rings (k1 : Nat) (σ2 : fh_S) : Option (Int32 × fh_S) := fh_ob 4 k1 ((fh_gr 4 k1 0).bind fun k3 => fh_cb (f_X0_ringCount k3 σ2) fun r5 σ4 => some (r5, σ4))
abbrev rm_X4_rings : Room := { frames := 3, cells := 0, slots := 0, locals := 69 }
theorem pd_X4_rings : yX4_rings.cls ≠ "java/lang/invoke/MethodHandle" ∧ yX4_rings.cls ≠ "java/lang/invoke/VarHandle" ∧ (parseMethodDescriptor yX4_rings.desc).map (fun d => d.parameters.length) = some 0 := by decide +kernel
theorem dX4_rings_0 : decode cX4_rings 0 = .ok (.aload_n 0, 1) := by decide +kernel
theorem dX4_rings_1 : decode cX4_rings 1 = .ok (.getfield 12, 3) := by decide +kernel
theorem dX4_rings_4 : decode cX4_rings 4 = .ok (.invokevirtual 145, 3) := by decide +kernel
theorem dX4_rings_7 : decode cX4_rings 7 = .ok (.ireturn, 1) := by decide +kernel
set_option maxHeartbeats 4000000 in
set_option maxRecDepth 100000 in
theorem g_X4_rings {E : fh_E} {M : fh_M} (C : fh_Cx E M cX4_rings 1 RX4 ((some FieldType.int)) rm_X4_rings) (Hr : fh_Rt E M) (k1 : Nat) (σ2 : fh_S) : fh_Go E M 1 fh_vI 0 [(0, .ref (fh_ad E k1))] [] σ2 (f_X4_rings k1 σ2) := by
  have hok := fh_cok C
  refine go_ob ?_
  refine go_aload_n C 0 rfl rfl dX4_rings_0 ?_
  refine go_gr (ci := 4) (j := 0) C fh_in4 rfl (by decide) rfl q_138 dX4_rings_1 (fun k3 => ?_)
  refine go_callVI C (st := []) [] (m_X0_ringCount E _ hok k3 σ2) (fun _ h => fh_ob_ok h) rfl rfl ⟨q_334, q_335, q_336, q_2, q_337⟩ pd_X0_ringCount rfl ⟨⟨Nat.le_of_ble_eq_true rfl, Nat.le_of_ble_eq_true rfl⟩, rfl, rfl⟩ (Nat.le_of_ble_eq_true rfl) dX4_rings_4 (fun r5 σ4 => ?_)
  exact go_iret C Hr rfl dX4_rings_7
theorem m_X4_rings (E : fh_E) (l : Launch) (hok : fh_ok E) (k1 : Nat) (σ2 : fh_S) : fh_Met E l yX4_rings cX4_rings 1 ((some FieldType.int)) rm_X4_rings fh_vI [.ref (fh_ad E k1)] σ2 (f_X4_rings k1 σ2) := fh_met hok (by decide +kernel) (Nat.le_of_ble_eq_true rfl) (fun M _ C Hr => g_X4_rings C Hr k1 σ2)
def f_X4_before (k1 : Nat) (a2 : Int32) (σ3 : fh_S) : Option (Int32 × fh_S) := fh_ob 4 k1 ((fh_gr 4 k1 0).bind fun k4 => fh_cb (f_X0_has k4 a2 σ3) fun r6 σ5 => if r6 = 0 then fh_cb (f_X4_tell k1 ((-1000001 : Int32)) σ5) fun r8 σ7 => some (r8, σ7) else (fh_gr 4 k1 0).bind fun k9 => fh_cb (f_X0_stepsToRing k9 a2 σ5) fun r11 σ10 => some (r11, σ10))
abbrev rm_X4_before : Room := { frames := 3, cells := 0, slots := 0, locals := 72 }
theorem pd_X4_before : yX4_before.cls ≠ "java/lang/invoke/MethodHandle" ∧ yX4_before.cls ≠ "java/lang/invoke/VarHandle" ∧ (parseMethodDescriptor yX4_before.desc).map (fun d => d.parameters.length) = some 1 := by decide +kernel
theorem dX4_before_0 : decode cX4_before 0 = .ok (.aload_n 0, 1) := by decide +kernel
theorem dX4_before_1 : decode cX4_before 1 = .ok (.getfield 12, 3) := by decide +kernel
theorem dX4_before_4 : decode cX4_before 4 = .ok (.iload_n 1, 1) := by decide +kernel
theorem dX4_before_5 : decode cX4_before 5 = .ok (.invokevirtual 70, 3) := by decide +kernel
theorem dX4_before_8 : decode cX4_before 8 = .ok (.ifCond .eq 14, 3) := by decide +kernel
theorem dX4_before_11 : decode cX4_before 11 = .ok (.aload_n 0, 1) := by decide +kernel
theorem dX4_before_12 : decode cX4_before 12 = .ok (.getfield 12, 3) := by decide +kernel
theorem dX4_before_15 : decode cX4_before 15 = .ok (.iload_n 1, 1) := by decide +kernel
theorem dX4_before_16 : decode cX4_before 16 = .ok (.invokevirtual 148, 3) := by decide +kernel
theorem dX4_before_19 : decode cX4_before 19 = .ok (.goto 9, 3) := by decide +kernel
theorem dX4_before_22 : decode cX4_before 22 = .ok (.aload_n 0, 1) := by decide +kernel
theorem dX4_before_23 : decode cX4_before 23 = .ok (.ldc 57, 2) := by decide +kernel
theorem dX4_before_25 : decode cX4_before 25 = .ok (.invokevirtual 58, 3) := by decide +kernel
theorem dX4_before_28 : decode cX4_before 28 = .ok (.ireturn, 1) := by decide +kernel
set_option maxHeartbeats 4000000 in
set_option maxRecDepth 100000 in
theorem g_X4_before {E : fh_E} {M : fh_M} (C : fh_Cx E M cX4_before 2 RX4 ((some FieldType.int)) rm_X4_before) (Hr : fh_Rt E M) (k1 : Nat) (a2 : Int32) (σ3 : fh_S) : fh_Go E M 2 fh_vI 0 [(0, .ref (fh_ad E k1)), (1, .int a2)] [] σ3 (f_X4_before k1 a2 σ3) := by
  have hok := fh_cok C
  refine go_ob ?_
  refine go_aload_n C 0 rfl rfl dX4_before_0 ?_
  refine go_gr (ci := 4) (j := 0) C fh_in4 rfl (by decide) rfl q_138 dX4_before_1 (fun k4 => ?_)
  refine go_iload_n C 1 rfl rfl dX4_before_4 ?_
  refine go_callVI C (st := []) [.int a2] (m_X0_has E _ hok k4 a2 σ3) (fun _ h => fh_ob_ok h) rfl rfl ⟨q_196, q_197, q_198, q_2, q_199⟩ pd_X0_has rfl ⟨⟨Nat.le_of_ble_eq_true rfl, Nat.le_of_ble_eq_true rfl⟩, rfl, rfl⟩ (Nat.le_of_ble_eq_true rfl) dX4_before_5 (fun r6 σ5 => ?_)
  refine go_if_eq (tgt := 22) C dX4_before_8 rfl (fun _ => ?_) (fun _ => ?_)
  · refine go_aload_n C 0 rfl rfl dX4_before_22 ?_
    refine go_ldc C q_175 dX4_before_23 ?_
    refine go_callVI C (st := []) [.int ((-1000001 : Int32))] (m_X4_tell E _ hok k1 ((-1000001 : Int32)) σ5) (fun _ h => fh_ob_ok h) rfl rfl ⟨q_176, q_178, qs_0, q_1, q_179⟩ pd_X4_tell rfl ⟨⟨Nat.le_of_ble_eq_true rfl, Nat.le_of_ble_eq_true rfl⟩, rfl, rfl⟩ (Nat.le_of_ble_eq_true rfl) dX4_before_25 (fun r8 σ7 => ?_)
    exact go_iret C Hr rfl dX4_before_28
  · refine go_aload_n C 0 rfl rfl dX4_before_11 ?_
    refine go_gr (ci := 4) (j := 0) C fh_in4 rfl (by decide) rfl q_138 dX4_before_12 (fun k9 => ?_)
    refine go_iload_n C 1 rfl rfl dX4_before_15 ?_
    refine go_callVI C (st := []) [.int a2] (m_X0_stepsToRing E _ hok k9 a2 σ5) (fun _ h => fh_ob_ok h) rfl rfl ⟨q_350, q_351, q_352, q_2, q_353⟩ pd_X0_stepsToRing rfl ⟨⟨Nat.le_of_ble_eq_true rfl, Nat.le_of_ble_eq_true rfl⟩, rfl, rfl⟩ (Nat.le_of_ble_eq_true rfl) dX4_before_16 (fun r11 σ10 => ?_)
    refine go_goto C 28 dX4_before_19 rfl ?_
    exact go_iret C Hr rfl dX4_before_28
theorem m_X4_before (E : fh_E) (l : Launch) (hok : fh_ok E) (k1 : Nat) (a2 : Int32) (σ3 : fh_S) : fh_Met E l yX4_before cX4_before 2 ((some FieldType.int)) rm_X4_before fh_vI [.ref (fh_ad E k1), .int a2] σ3 (f_X4_before k1 a2 σ3) := fh_met hok (by decide +kernel) (Nat.le_of_ble_eq_true rfl) (fun M _ C Hr => g_X4_before C Hr k1 a2 σ3)
def f_X4_under (k1 : Nat) (a2 : Int32) (σ3 : fh_S) : Option (Int32 × fh_S) := fh_ob 4 k1 ((fh_gr 4 k1 0).bind fun k4 => fh_cb (f_X0_has k4 a2 σ3) fun r6 σ5 => if r6 = 0 then fh_cb (f_X4_tell k1 ((-1000001 : Int32)) σ5) fun r8 σ7 => some (r8, σ7) else (fh_gr 4 k1 0).bind fun k9 => fh_cb (f_X0_underSet k9 a2 σ5) fun r11 σ10 => some (r11, σ10))
abbrev rm_X4_under : Room := { frames := 2, cells := 0, slots := 0, locals := 47 }
theorem pd_X4_under : yX4_under.cls ≠ "java/lang/invoke/MethodHandle" ∧ yX4_under.cls ≠ "java/lang/invoke/VarHandle" ∧ (parseMethodDescriptor yX4_under.desc).map (fun d => d.parameters.length) = some 1 := by decide +kernel
theorem dX4_under_0 : decode cX4_under 0 = .ok (.aload_n 0, 1) := by decide +kernel
theorem dX4_under_1 : decode cX4_under 1 = .ok (.getfield 12, 3) := by decide +kernel
theorem dX4_under_4 : decode cX4_under 4 = .ok (.iload_n 1, 1) := by decide +kernel
theorem dX4_under_5 : decode cX4_under 5 = .ok (.invokevirtual 70, 3) := by decide +kernel
theorem dX4_under_8 : decode cX4_under 8 = .ok (.ifCond .eq 14, 3) := by decide +kernel
theorem dX4_under_11 : decode cX4_under 11 = .ok (.aload_n 0, 1) := by decide +kernel
theorem dX4_under_12 : decode cX4_under 12 = .ok (.getfield 12, 3) := by decide +kernel
theorem dX4_under_15 : decode cX4_under 15 = .ok (.iload_n 1, 1) := by decide +kernel
theorem dX4_under_16 : decode cX4_under 16 = .ok (.invokevirtual 151, 3) := by decide +kernel
theorem dX4_under_19 : decode cX4_under 19 = .ok (.goto 9, 3) := by decide +kernel
theorem dX4_under_22 : decode cX4_under 22 = .ok (.aload_n 0, 1) := by decide +kernel
theorem dX4_under_23 : decode cX4_under 23 = .ok (.ldc 57, 2) := by decide +kernel
theorem dX4_under_25 : decode cX4_under 25 = .ok (.invokevirtual 58, 3) := by decide +kernel
theorem dX4_under_28 : decode cX4_under 28 = .ok (.ireturn, 1) := by decide +kernel
set_option maxHeartbeats 4000000 in
set_option maxRecDepth 100000 in
theorem g_X4_under {E : fh_E} {M : fh_M} (C : fh_Cx E M cX4_under 2 RX4 ((some FieldType.int)) rm_X4_under) (Hr : fh_Rt E M) (k1 : Nat) (a2 : Int32) (σ3 : fh_S) : fh_Go E M 2 fh_vI 0 [(0, .ref (fh_ad E k1)), (1, .int a2)] [] σ3 (f_X4_under k1 a2 σ3) := by
  have hok := fh_cok C
  refine go_ob ?_
  refine go_aload_n C 0 rfl rfl dX4_under_0 ?_
  refine go_gr (ci := 4) (j := 0) C fh_in4 rfl (by decide) rfl q_138 dX4_under_1 (fun k4 => ?_)
  refine go_iload_n C 1 rfl rfl dX4_under_4 ?_
  refine go_callVI C (st := []) [.int a2] (m_X0_has E _ hok k4 a2 σ3) (fun _ h => fh_ob_ok h) rfl rfl ⟨q_196, q_197, q_198, q_2, q_199⟩ pd_X0_has rfl ⟨⟨Nat.le_of_ble_eq_true rfl, Nat.le_of_ble_eq_true rfl⟩, rfl, rfl⟩ (Nat.le_of_ble_eq_true rfl) dX4_under_5 (fun r6 σ5 => ?_)
  refine go_if_eq (tgt := 22) C dX4_under_8 rfl (fun _ => ?_) (fun _ => ?_)
  · refine go_aload_n C 0 rfl rfl dX4_under_22 ?_
    refine go_ldc C q_175 dX4_under_23 ?_
    refine go_callVI C (st := []) [.int ((-1000001 : Int32))] (m_X4_tell E _ hok k1 ((-1000001 : Int32)) σ5) (fun _ h => fh_ob_ok h) rfl rfl ⟨q_176, q_178, qs_0, q_1, q_179⟩ pd_X4_tell rfl ⟨⟨Nat.le_of_ble_eq_true rfl, Nat.le_of_ble_eq_true rfl⟩, rfl, rfl⟩ (Nat.le_of_ble_eq_true rfl) dX4_under_25 (fun r8 σ7 => ?_)
    exact go_iret C Hr rfl dX4_under_28
  · refine go_aload_n C 0 rfl rfl dX4_under_11 ?_
    refine go_gr (ci := 4) (j := 0) C fh_in4 rfl (by decide) rfl q_138 dX4_under_12 (fun k9 => ?_)
    refine go_iload_n C 1 rfl rfl dX4_under_15 ?_
    refine go_callVI C (st := []) [.int a2] (m_X0_underSet E _ hok k9 a2 σ5) (fun _ h => fh_ob_ok h) rfl rfl ⟨q_361, q_362, q_363, q_2, q_364⟩ pd_X0_underSet rfl ⟨⟨Nat.le_of_ble_eq_true rfl, Nat.le_of_ble_eq_true rfl⟩, rfl, rfl⟩ (Nat.le_of_ble_eq_true rfl) dX4_under_16 (fun r11 σ10 => ?_)
    refine go_goto C 28 dX4_under_19 rfl ?_
    exact go_iret C Hr rfl dX4_under_28
theorem m_X4_under (E : fh_E) (l : Launch) (hok : fh_ok E) (k1 : Nat) (a2 : Int32) (σ3 : fh_S) : fh_Met E l yX4_under cX4_under 2 ((some FieldType.int)) rm_X4_under fh_vI [.ref (fh_ad E k1), .int a2] σ3 (f_X4_under k1 a2 σ3) := fh_met hok (by decide +kernel) (Nat.le_of_ble_eq_true rfl) (fun M _ C Hr => g_X4_under C Hr k1 a2 σ3)
def f_X4_greatest_J41 (r7 : Int32 → Int32 → Int32 → fh_S → Option (Int32 × fh_S)) (x5 : Int32) : Int32 → Int32 → fh_S → Option (Int32 × fh_S) := fun x17 x18 σ19 => r7 x17 x18 (x5 + 1) σ19
def f_X4_greatest_B6 (k1 : Nat) (r7 : Int32 → Int32 → Int32 → fh_S → Option (Int32 × fh_S)) : Int32 → Int32 → Int32 → fh_S → Option (Int32 × fh_S) := fun x3 x4 x5 σ6 => (fh_gr 4 k1 0).bind fun k8 => (fh_gi σ6 0 k8 9).bind fun v9 => if v9 ≤ x5 then if 0 ≤ x3 then some (x3, σ6) else fh_cb (f_X4_tell k1 ((-1000004 : Int32)) σ6) fun r11 σ10 => some (r11, σ10) else (fh_gr 4 k1 0).bind fun k12 => fh_cb (f_X0_underSet k12 x5 σ6) fun r14 σ13 => fh_cb (f_J6_bitCount_0f7a4 r14 σ13) fun r16 σ15 => fh_jn (f_X4_greatest_J41 r7 x5) (fun j20 => if r16 ≤ x4 then j20 x3 x4 σ15 else j20 x5 r16 σ15)
def f_X4_greatest (k1 : Nat) (σ2 : fh_S) : Option (Int32 × fh_S) := fh_ob 4 k1 (fh_fx (ρ := Int32 → Int32 → Int32 → fh_S → Option (Int32 × fh_S)) (fun _ _ _ _ => none) (f_X4_greatest_B6 k1) fh_fu ((-1 : Int32)) ((-1 : Int32)) ((0 : Int32)) σ2)
abbrev rm_X4_greatest : Room := { frames := 2, cells := 0, slots := 0, locals := 47 }
theorem pd_X4_greatest : yX4_greatest.cls ≠ "java/lang/invoke/MethodHandle" ∧ yX4_greatest.cls ≠ "java/lang/invoke/VarHandle" ∧ (parseMethodDescriptor yX4_greatest.desc).map (fun d => d.parameters.length) = some 0 := by decide +kernel
theorem dX4_greatest_0 : decode cX4_greatest 0 = .ok (.iconst (-1), 1) := by decide +kernel
theorem dX4_greatest_1 : decode cX4_greatest 1 = .ok (.istore_n 1, 1) := by decide +kernel
theorem dX4_greatest_2 : decode cX4_greatest 2 = .ok (.iconst (-1), 1) := by decide +kernel
theorem dX4_greatest_3 : decode cX4_greatest 3 = .ok (.istore_n 2, 1) := by decide +kernel
theorem dX4_greatest_4 : decode cX4_greatest 4 = .ok (.iconst 0, 1) := by decide +kernel
theorem dX4_greatest_5 : decode cX4_greatest 5 = .ok (.istore_n 3, 1) := by decide +kernel
theorem dX4_greatest_6 : decode cX4_greatest 6 = .ok (.iload_n 3, 1) := by decide +kernel
theorem dX4_greatest_7 : decode cX4_greatest 7 = .ok (.aload_n 0, 1) := by decide +kernel
theorem dX4_greatest_8 : decode cX4_greatest 8 = .ok (.getfield 12, 3) := by decide +kernel
theorem dX4_greatest_11 : decode cX4_greatest 11 = .ok (.getfield 136, 3) := by decide +kernel
theorem dX4_greatest_14 : decode cX4_greatest 14 = .ok (.if_icmp .ge 33, 3) := by decide +kernel
theorem dX4_greatest_17 : decode cX4_greatest 17 = .ok (.aload_n 0, 1) := by decide +kernel
theorem dX4_greatest_18 : decode cX4_greatest 18 = .ok (.getfield 12, 3) := by decide +kernel
theorem dX4_greatest_21 : decode cX4_greatest 21 = .ok (.iload_n 3, 1) := by decide +kernel
theorem dX4_greatest_22 : decode cX4_greatest 22 = .ok (.invokevirtual 151, 3) := by decide +kernel
theorem dX4_greatest_25 : decode cX4_greatest 25 = .ok (.invokestatic 131, 3) := by decide +kernel
theorem dX4_greatest_28 : decode cX4_greatest 28 = .ok (.istore 4, 2) := by decide +kernel
theorem dX4_greatest_30 : decode cX4_greatest 30 = .ok (.iload 4, 2) := by decide +kernel
theorem dX4_greatest_32 : decode cX4_greatest 32 = .ok (.iload_n 2, 1) := by decide +kernel
theorem dX4_greatest_33 : decode cX4_greatest 33 = .ok (.if_icmp .le 8, 3) := by decide +kernel
theorem dX4_greatest_36 : decode cX4_greatest 36 = .ok (.iload 4, 2) := by decide +kernel
theorem dX4_greatest_38 : decode cX4_greatest 38 = .ok (.istore_n 2, 1) := by decide +kernel
theorem dX4_greatest_39 : decode cX4_greatest 39 = .ok (.iload_n 3, 1) := by decide +kernel
theorem dX4_greatest_40 : decode cX4_greatest 40 = .ok (.istore_n 1, 1) := by decide +kernel
theorem dX4_greatest_41 : decode cX4_greatest 41 = .ok (.iinc 3 1, 3) := by decide +kernel
theorem dX4_greatest_44 : decode cX4_greatest 44 = .ok (.goto (-38), 3) := by decide +kernel
theorem dX4_greatest_47 : decode cX4_greatest 47 = .ok (.iload_n 1, 1) := by decide +kernel
theorem dX4_greatest_48 : decode cX4_greatest 48 = .ok (.ifCond .ge 12, 3) := by decide +kernel
theorem dX4_greatest_51 : decode cX4_greatest 51 = .ok (.aload_n 0, 1) := by decide +kernel
theorem dX4_greatest_52 : decode cX4_greatest 52 = .ok (.ldc 154, 2) := by decide +kernel
theorem dX4_greatest_54 : decode cX4_greatest 54 = .ok (.invokevirtual 58, 3) := by decide +kernel
theorem dX4_greatest_57 : decode cX4_greatest 57 = .ok (.goto 4, 3) := by decide +kernel
theorem dX4_greatest_60 : decode cX4_greatest 60 = .ok (.iload_n 1, 1) := by decide +kernel
theorem dX4_greatest_61 : decode cX4_greatest 61 = .ok (.ireturn, 1) := by decide +kernel
set_option maxHeartbeats 4000000 in
set_option maxRecDepth 100000 in
theorem g_X4_greatest {E : fh_E} {M : fh_M} (C : fh_Cx E M cX4_greatest 5 RX4 ((some FieldType.int)) rm_X4_greatest) (Hr : fh_Rt E M) (k1 : Nat) (σ2 : fh_S) : fh_Go E M 5 fh_vI 0 [(0, .ref (fh_ad E k1))] [] σ2 (f_X4_greatest k1 σ2) := by
  have hok := fh_cok C
  refine go_ob ?_
  refine go_iconst C (-1 : Int32) dX4_greatest_0 rfl ?_
  refine go_istore_n C [(1, .int ((-1 : Int32))), (0, .ref (fh_ad E k1))] rfl rfl (by decide) dX4_greatest_1 ?_
  refine go_iconst C (-1 : Int32) dX4_greatest_2 rfl ?_
  refine go_istore_n C [(2, .int ((-1 : Int32))), (1, .int ((-1 : Int32))), (0, .ref (fh_ad E k1))] rfl rfl (by decide) dX4_greatest_3 ?_
  refine go_iconst C (0 : Int32) dX4_greatest_4 rfl ?_
  refine go_istore_n C [(3, .int ((0 : Int32))), (2, .int ((-1 : Int32))), (1, .int ((-1 : Int32))), (0, .ref (fh_ad E k1))] rfl rfl (by decide) dX4_greatest_5 ?_
  refine go_lv [3, 2, 1, 0] (lv' := [(0, .ref (fh_ad E k1)), (1, .int ((-1 : Int32))), (2, .int ((-1 : Int32))), (3, .int ((0 : Int32)))]) rfl ?_
  refine go_fx (fun (r7 : Int32 → Int32 → Int32 → fh_S → Option (Int32 × fh_S)) => ∀ (x3 : Int32) (x4 : Int32) (x5 : Int32) (σ6 : fh_S), fh_Go E M 5 fh_vI 6 [(0, .ref (fh_ad E k1)), (1, .int x3), (2, .int x4), (3, .int x5)] [] σ6 (r7 x3 x4 x5 σ6)) ?_ ?_ fh_fu ((-1 : Int32)) ((-1 : Int32)) ((0 : Int32)) σ2
  · intro x3 x4 x5 σ6
    exact go_none
  · intro r7 hr7 x3 x4 x5 σ6
    refine go_iload_n C 3 rfl rfl dX4_greatest_6 ?_
    refine go_aload_n C 0 rfl rfl dX4_greatest_7 ?_
    refine go_gr (ci := 4) (j := 0) C fh_in4 rfl (by decide) rfl q_138 dX4_greatest_8 (fun k8 => ?_)
    refine go_gi (ci := 0) (j := 9) C fh_in0 rfl (by decide) rfl q_48 dX4_greatest_11 (fun v9 => ?_)
    refine go_icmp_ge (tgt := 47) C dX4_greatest_14 rfl (fun _ => ?_) (fun _ => ?_)
    · refine go_iload_n C 1 rfl rfl dX4_greatest_47 ?_
      refine go_if_ge (tgt := 60) C dX4_greatest_48 rfl (fun _ => ?_) (fun _ => ?_)
      · refine go_iload_n C 1 rfl rfl dX4_greatest_60 ?_
        exact go_iret C Hr rfl dX4_greatest_61
      · refine go_aload_n C 0 rfl rfl dX4_greatest_51 ?_
        refine go_ldc C q_369 dX4_greatest_52 ?_
        refine go_callVI C (st := []) [.int ((-1000004 : Int32))] (m_X4_tell E _ hok k1 ((-1000004 : Int32)) σ6) (fun _ h => fh_ob_ok h) rfl rfl ⟨q_176, q_178, qs_0, q_1, q_179⟩ pd_X4_tell rfl ⟨⟨Nat.le_of_ble_eq_true rfl, Nat.le_of_ble_eq_true rfl⟩, rfl, rfl⟩ (Nat.le_of_ble_eq_true rfl) dX4_greatest_54 (fun r11 σ10 => ?_)
        refine go_goto C 61 dX4_greatest_57 rfl ?_
        exact go_iret C Hr rfl dX4_greatest_61
    · refine go_aload_n C 0 rfl rfl dX4_greatest_17 ?_
      refine go_gr (ci := 4) (j := 0) C fh_in4 rfl (by decide) rfl q_138 dX4_greatest_18 (fun k12 => ?_)
      refine go_iload_n C 3 rfl rfl dX4_greatest_21 ?_
      refine go_callVI C (st := []) [.int x5] (m_X0_underSet E _ hok k12 x5 σ6) (fun _ h => fh_ob_ok h) rfl rfl ⟨q_361, q_362, q_363, q_2, q_364⟩ pd_X0_underSet rfl ⟨⟨Nat.le_of_ble_eq_true rfl, Nat.le_of_ble_eq_true rfl⟩, rfl, rfl⟩ (Nat.le_of_ble_eq_true rfl) dX4_greatest_22 (fun r14 σ13 => ?_)
      refine go_callSI C (st := []) [.int r14] (m_J6_bitCount_0f7a4 E _ hok r14 σ13) rfl ⟨q_312, q_307, q_8, q_308⟩ pd_J6_bitCount_0f7a4 rfl ⟨⟨Nat.le_of_ble_eq_true rfl, Nat.le_of_ble_eq_true rfl⟩, rfl, rfl⟩ (Nat.le_of_ble_eq_true rfl) dX4_greatest_25 (fun r16 σ15 => ?_)
      refine go_istore C [(4, .int r16), (0, .ref (fh_ad E k1)), (1, .int x3), (2, .int x4), (3, .int x5)] rfl (by decide) dX4_greatest_28 ?_
      refine go_iload C 0 rfl dX4_greatest_30 ?_
      refine go_iload_n C 3 rfl rfl dX4_greatest_32 ?_
      refine go_jn (fun (j20 : Int32 → Int32 → fh_S → Option (Int32 × fh_S)) => ∀ (x17 : Int32) (x18 : Int32) (σ19 : fh_S), fh_Go E M 5 fh_vI 41 [(0, .ref (fh_ad E k1)), (1, .int x17), (2, .int x18), (3, .int x5)] [] σ19 (j20 x17 x18 σ19)) ?_ (fun j20 hj20 => ?_)
      · intro x17 x18 σ19
        refine go_iinc C (x5 + 1) 3 [(3, .int (x5 + 1)), (0, .ref (fh_ad E k1)), (1, .int x17), (2, .int x18)] rfl rfl rfl (by decide) dX4_greatest_41 ?_
        refine go_goto C 6 dX4_greatest_44 rfl ?_
        refine go_lv [1, 2, 3, 0] (lv' := [(0, .ref (fh_ad E k1)), (1, .int x17), (2, .int x18), (3, .int (x5 + 1))]) rfl ?_
        exact hr7 x17 x18 (x5 + 1) σ19
      refine go_icmp_le (tgt := 41) C dX4_greatest_33 rfl (fun _ => ?_) (fun _ => ?_)
      · refine go_lv [1, 2, 3, 4] (lv' := [(0, .ref (fh_ad E k1)), (1, .int x3), (2, .int x4), (3, .int x5)]) rfl ?_
        exact hj20 x3 x4 σ15
      · refine go_iload C 0 rfl dX4_greatest_36 ?_
        refine go_istore_n C [(2, .int r16), (4, .int r16), (0, .ref (fh_ad E k1)), (1, .int x3), (3, .int x5)] rfl rfl (by decide) dX4_greatest_38 ?_
        refine go_iload_n C 4 rfl rfl dX4_greatest_39 ?_
        refine go_istore_n C [(1, .int x5), (2, .int r16), (4, .int r16), (0, .ref (fh_ad E k1)), (3, .int x5)] rfl rfl (by decide) dX4_greatest_40 ?_
        refine go_lv [3, 0, 1, 4] (lv' := [(0, .ref (fh_ad E k1)), (1, .int x5), (2, .int r16), (3, .int x5)]) rfl ?_
        exact hj20 x5 r16 σ15
theorem m_X4_greatest (E : fh_E) (l : Launch) (hok : fh_ok E) (k1 : Nat) (σ2 : fh_S) : fh_Met E l yX4_greatest cX4_greatest 5 ((some FieldType.int)) rm_X4_greatest fh_vI [.ref (fh_ad E k1)] σ2 (f_X4_greatest k1 σ2) := fh_met hok (by decide +kernel) (Nat.le_of_ble_eq_true rfl) (fun M _ C Hr => g_X4_greatest C Hr k1 σ2)
def f_X4_tryTicks (k1 : Nat) (a2 : Int32) (σ3 : fh_S) : Option (Unit × fh_S) := fh_ob 4 k1 ((fh_gr 4 k1 2).bind fun k4 => (fh_gr 4 k1 0).bind fun k5 => fh_cb (f_X0_become k4 k5 σ3) fun _ σ6 => (fh_gr 4 k1 2).bind fun k7 => fh_cb (f_X0_passTicks k7 a2 σ6) fun _ σ8 => some ((), σ8))
abbrev rm_X4_tryTicks : Room := { frames := 5, cells := 0, slots := 0, locals := 111 }
theorem pd_X4_tryTicks : yX4_tryTicks.cls ≠ "java/lang/invoke/MethodHandle" ∧ yX4_tryTicks.cls ≠ "java/lang/invoke/VarHandle" ∧ (parseMethodDescriptor yX4_tryTicks.desc).map (fun d => d.parameters.length) = some 1 := by decide +kernel
theorem dX4_tryTicks_0 : decode cX4_tryTicks 0 = .ok (.aload_n 0, 1) := by decide +kernel
theorem dX4_tryTicks_1 : decode cX4_tryTicks 1 = .ok (.getfield 19, 3) := by decide +kernel
theorem dX4_tryTicks_4 : decode cX4_tryTicks 4 = .ok (.aload_n 0, 1) := by decide +kernel
theorem dX4_tryTicks_5 : decode cX4_tryTicks 5 = .ok (.getfield 12, 3) := by decide +kernel
theorem dX4_tryTicks_8 : decode cX4_tryTicks 8 = .ok (.invokevirtual 161, 3) := by decide +kernel
theorem dX4_tryTicks_11 : decode cX4_tryTicks 11 = .ok (.aload_n 0, 1) := by decide +kernel
theorem dX4_tryTicks_12 : decode cX4_tryTicks 12 = .ok (.getfield 19, 3) := by decide +kernel
theorem dX4_tryTicks_15 : decode cX4_tryTicks 15 = .ok (.iload_n 1, 1) := by decide +kernel
theorem dX4_tryTicks_16 : decode cX4_tryTicks 16 = .ok (.invokevirtual 107, 3) := by decide +kernel
theorem dX4_tryTicks_19 : decode cX4_tryTicks 19 = .ok (.return_, 1) := by decide +kernel
set_option maxHeartbeats 4000000 in
set_option maxRecDepth 100000 in
theorem g_X4_tryTicks {E : fh_E} {M : fh_M} (C : fh_Cx E M cX4_tryTicks 2 RX4 (none) rm_X4_tryTicks) (Hr : fh_Rt E M) (k1 : Nat) (a2 : Int32) (σ3 : fh_S) : fh_Go E M 2 fh_vU 0 [(0, .ref (fh_ad E k1)), (1, .int a2)] [] σ3 (f_X4_tryTicks k1 a2 σ3) := by
  have hok := fh_cok C
  refine go_ob ?_
  refine go_aload_n C 0 rfl rfl dX4_tryTicks_0 ?_
  refine go_gr (ci := 4) (j := 2) C fh_in4 rfl (by decide) rfl q_140 dX4_tryTicks_1 (fun k4 => ?_)
  refine go_aload_n C 0 rfl rfl dX4_tryTicks_4 ?_
  refine go_gr (ci := 4) (j := 0) C fh_in4 rfl (by decide) rfl q_138 dX4_tryTicks_5 (fun k5 => ?_)
  refine go_callVU C (st := []) [.ref (fh_ad E k5)] (m_X0_become E _ hok k4 k5 σ3) (fun _ h => fh_ob_ok h) rfl rfl ⟨q_378, q_379, q_380, q_2, q_381⟩ pd_X0_become rfl ⟨⟨Nat.le_of_ble_eq_true rfl, Nat.le_of_ble_eq_true rfl⟩, rfl, rfl⟩ (Nat.le_of_ble_eq_true rfl) dX4_tryTicks_8 (fun _ σ6 => ?_)
  refine go_aload_n C 0 rfl rfl dX4_tryTicks_11 ?_
  refine go_gr (ci := 4) (j := 2) C fh_in4 rfl (by decide) rfl q_140 dX4_tryTicks_12 (fun k7 => ?_)
  refine go_iload_n C 1 rfl rfl dX4_tryTicks_15 ?_
  refine go_callVU C (st := []) [.int a2] (m_X0_passTicks E _ hok k7 a2 σ6) (fun _ h => fh_ob_ok h) rfl rfl ⟨q_267, q_268, q_269, q_2, q_270⟩ pd_X0_passTicks rfl ⟨⟨Nat.le_of_ble_eq_true rfl, Nat.le_of_ble_eq_true rfl⟩, rfl, rfl⟩ (Nat.le_of_ble_eq_true rfl) dX4_tryTicks_16 (fun _ σ8 => ?_)
  exact go_vret C Hr rfl dX4_tryTicks_19
theorem m_X4_tryTicks (E : fh_E) (l : Launch) (hok : fh_ok E) (k1 : Nat) (a2 : Int32) (σ3 : fh_S) : fh_Met E l yX4_tryTicks cX4_tryTicks 2 (none) rm_X4_tryTicks fh_vU [.ref (fh_ad E k1), .int a2] σ3 (f_X4_tryTicks k1 a2 σ3) := fh_met hok (by decide +kernel) (Nat.le_of_ble_eq_true rfl) (fun M _ C Hr => g_X4_tryTicks C Hr k1 a2 σ3)
def f_X4_ahead_J22 (k1 : Nat) : fh_S → Option (Int32 × fh_S) := fun σ8 => fh_cb (f_X4_tell k1 ((-1000001 : Int32)) σ8) fun r10 σ9 => some (r10, σ9)
def f_X4_ahead (k1 : Nat) (a2 : Int32) (a3 : Int32) (σ4 : fh_S) : Option (Int32 × fh_S) := fh_ob 4 k1 ((fh_gr 4 k1 0).bind fun k5 => fh_cb (f_X0_has k5 a2 σ4) fun r7 σ6 => fh_jn (f_X4_ahead_J22 k1) (fun j11 => if r7 = 0 then j11 σ6 else fh_cb (f_X4_isWithin a3 ((0 : Int32)) ((200 : Int32)) σ6) fun r13 σ12 => if r13 = 0 then j11 σ12 else fh_cb (f_X4_tryTicks k1 a3 σ12) fun _ σ14 => (fh_gr 4 k1 2).bind fun k15 => (fh_gr 0 k15 1).bind fun k16 => (fh_ld σ14 k16 a2).bind fun v17 => some (v17, σ14)))
abbrev rm_X4_ahead : Room := { frames := 6, cells := 0, slots := 0, locals := 132 }
theorem pd_X4_ahead : yX4_ahead.cls ≠ "java/lang/invoke/MethodHandle" ∧ yX4_ahead.cls ≠ "java/lang/invoke/VarHandle" ∧ (parseMethodDescriptor yX4_ahead.desc).map (fun d => d.parameters.length) = some 2 := by decide +kernel
theorem dX4_ahead_0 : decode cX4_ahead 0 = .ok (.aload_n 0, 1) := by decide +kernel
theorem dX4_ahead_1 : decode cX4_ahead 1 = .ok (.getfield 12, 3) := by decide +kernel
theorem dX4_ahead_4 : decode cX4_ahead 4 = .ok (.iload_n 1, 1) := by decide +kernel
theorem dX4_ahead_5 : decode cX4_ahead 5 = .ok (.invokevirtual 70, 3) := by decide +kernel
theorem dX4_ahead_8 : decode cX4_ahead 8 = .ok (.ifCond .eq 14, 3) := by decide +kernel
theorem dX4_ahead_11 : decode cX4_ahead 11 = .ok (.iload_n 2, 1) := by decide +kernel
theorem dX4_ahead_12 : decode cX4_ahead 12 = .ok (.iconst 0, 1) := by decide +kernel
theorem dX4_ahead_13 : decode cX4_ahead 13 = .ok (.sipush 200, 3) := by decide +kernel
theorem dX4_ahead_16 : decode cX4_ahead 16 = .ok (.invokestatic 84, 3) := by decide +kernel
theorem dX4_ahead_19 : decode cX4_ahead 19 = .ok (.ifCond .ne 10, 3) := by decide +kernel
theorem dX4_ahead_22 : decode cX4_ahead 22 = .ok (.aload_n 0, 1) := by decide +kernel
theorem dX4_ahead_23 : decode cX4_ahead 23 = .ok (.ldc 57, 2) := by decide +kernel
theorem dX4_ahead_25 : decode cX4_ahead 25 = .ok (.invokevirtual 58, 3) := by decide +kernel
theorem dX4_ahead_28 : decode cX4_ahead 28 = .ok (.ireturn, 1) := by decide +kernel
theorem dX4_ahead_29 : decode cX4_ahead 29 = .ok (.aload_n 0, 1) := by decide +kernel
theorem dX4_ahead_30 : decode cX4_ahead 30 = .ok (.iload_n 2, 1) := by decide +kernel
theorem dX4_ahead_31 : decode cX4_ahead 31 = .ok (.invokevirtual 155, 3) := by decide +kernel
theorem dX4_ahead_34 : decode cX4_ahead 34 = .ok (.aload_n 0, 1) := by decide +kernel
theorem dX4_ahead_35 : decode cX4_ahead 35 = .ok (.getfield 19, 3) := by decide +kernel
theorem dX4_ahead_38 : decode cX4_ahead 38 = .ok (.getfield 92, 3) := by decide +kernel
theorem dX4_ahead_41 : decode cX4_ahead 41 = .ok (.iload_n 1, 1) := by decide +kernel
theorem dX4_ahead_42 : decode cX4_ahead 42 = .ok (.iaload, 1) := by decide +kernel
theorem dX4_ahead_43 : decode cX4_ahead 43 = .ok (.ireturn, 1) := by decide +kernel
set_option maxHeartbeats 4000000 in
set_option maxRecDepth 100000 in
theorem g_X4_ahead {E : fh_E} {M : fh_M} (C : fh_Cx E M cX4_ahead 3 RX4 ((some FieldType.int)) rm_X4_ahead) (Hr : fh_Rt E M) (k1 : Nat) (a2 : Int32) (a3 : Int32) (σ4 : fh_S) : fh_Go E M 3 fh_vI 0 [(0, .ref (fh_ad E k1)), (1, .int a2), (2, .int a3)] [] σ4 (f_X4_ahead k1 a2 a3 σ4) := by
  have hok := fh_cok C
  refine go_ob ?_
  refine go_aload_n C 0 rfl rfl dX4_ahead_0 ?_
  refine go_gr (ci := 4) (j := 0) C fh_in4 rfl (by decide) rfl q_138 dX4_ahead_1 (fun k5 => ?_)
  refine go_iload_n C 1 rfl rfl dX4_ahead_4 ?_
  refine go_callVI C (st := []) [.int a2] (m_X0_has E _ hok k5 a2 σ4) (fun _ h => fh_ob_ok h) rfl rfl ⟨q_196, q_197, q_198, q_2, q_199⟩ pd_X0_has rfl ⟨⟨Nat.le_of_ble_eq_true rfl, Nat.le_of_ble_eq_true rfl⟩, rfl, rfl⟩ (Nat.le_of_ble_eq_true rfl) dX4_ahead_5 (fun r7 σ6 => ?_)
  refine go_jn (fun (j11 : fh_S → Option (Int32 × fh_S)) => ∀ (σ8 : fh_S), fh_Go E M 3 fh_vI 22 [(0, .ref (fh_ad E k1))] [] σ8 (j11 σ8)) ?_ (fun j11 hj11 => ?_)
  · intro σ8
    refine go_aload_n C 0 rfl rfl dX4_ahead_22 ?_
    refine go_ldc C q_175 dX4_ahead_23 ?_
    refine go_callVI C (st := []) [.int ((-1000001 : Int32))] (m_X4_tell E _ hok k1 ((-1000001 : Int32)) σ8) (fun _ h => fh_ob_ok h) rfl rfl ⟨q_176, q_178, qs_0, q_1, q_179⟩ pd_X4_tell rfl ⟨⟨Nat.le_of_ble_eq_true rfl, Nat.le_of_ble_eq_true rfl⟩, rfl, rfl⟩ (Nat.le_of_ble_eq_true rfl) dX4_ahead_25 (fun r10 σ9 => ?_)
    exact go_iret C Hr rfl dX4_ahead_28
  refine go_if_eq (tgt := 22) C dX4_ahead_8 rfl (fun _ => ?_) (fun _ => ?_)
  · refine go_lv [0] (lv' := [(0, .ref (fh_ad E k1))]) rfl ?_
    exact hj11 σ6
  · refine go_iload_n C 2 rfl rfl dX4_ahead_11 ?_
    refine go_iconst C (0 : Int32) dX4_ahead_12 rfl ?_
    refine go_sipush C (200 : Int32) dX4_ahead_13 rfl ?_
    refine go_callSI C (st := []) [.int a3, .int ((0 : Int32)), .int ((200 : Int32))] (m_X4_isWithin E _ hok a3 ((0 : Int32)) ((200 : Int32)) σ6) rfl ⟨q_172, q_173, q_1, q_174⟩ pd_X4_isWithin rfl ⟨⟨Nat.le_of_ble_eq_true rfl, Nat.le_of_ble_eq_true rfl⟩, rfl, rfl⟩ (Nat.le_of_ble_eq_true rfl) dX4_ahead_16 (fun r13 σ12 => ?_)
    refine go_if_ne (tgt := 29) C dX4_ahead_19 rfl (fun _ => ?_) (fun _ => ?_)
    · refine go_aload_n C 0 rfl rfl dX4_ahead_29 ?_
      refine go_iload_n C 2 rfl rfl dX4_ahead_30 ?_
      refine go_callVU C (st := []) [.int a3] (m_X4_tryTicks E _ hok k1 a3 σ12) (fun _ h => fh_ob_ok h) rfl rfl ⟨q_374, q_376, qs_3, q_1, q_377⟩ pd_X4_tryTicks rfl ⟨⟨Nat.le_of_ble_eq_true rfl, Nat.le_of_ble_eq_true rfl⟩, rfl, rfl⟩ (Nat.le_of_ble_eq_true rfl) dX4_ahead_31 (fun _ σ14 => ?_)
      refine go_aload_n C 0 rfl rfl dX4_ahead_34 ?_
      refine go_gr (ci := 4) (j := 2) C fh_in4 rfl (by decide) rfl q_140 dX4_ahead_35 (fun k15 => ?_)
      refine go_gr (ci := 0) (j := 1) C fh_in0 rfl (by decide) rfl q_32 dX4_ahead_38 (fun k16 => ?_)
      refine go_iload_n C 1 rfl rfl dX4_ahead_41 ?_
      refine go_iald C dX4_ahead_42 (fun v17 => ?_)
      exact go_iret C Hr rfl dX4_ahead_43
    · refine go_lv [0] (lv' := [(0, .ref (fh_ad E k1))]) rfl ?_
      exact hj11 σ12
theorem m_X4_ahead (E : fh_E) (l : Launch) (hok : fh_ok E) (k1 : Nat) (a2 : Int32) (a3 : Int32) (σ4 : fh_S) : fh_Met E l yX4_ahead cX4_ahead 3 ((some FieldType.int)) rm_X4_ahead fh_vI [.ref (fh_ad E k1), .int a2, .int a3] σ4 (f_X4_ahead k1 a2 a3 σ4) := fh_met hok (by decide +kernel) (Nat.le_of_ble_eq_true rfl) (fun M _ C Hr => g_X4_ahead C Hr k1 a2 a3 σ4)
def f_X4_going_J22 (k1 : Nat) : fh_S → Option (Int32 × fh_S) := fun σ8 => fh_cb (f_X4_tell k1 ((-1000001 : Int32)) σ8) fun r10 σ9 => some (r10, σ9)
def f_X4_going (k1 : Nat) (a2 : Int32) (a3 : Int32) (σ4 : fh_S) : Option (Int32 × fh_S) := fh_ob 4 k1 ((fh_gr 4 k1 0).bind fun k5 => fh_cb (f_X0_has k5 a2 σ4) fun r7 σ6 => fh_jn (f_X4_going_J22 k1) (fun j11 => if r7 = 0 then j11 σ6 else fh_cb (f_X4_isWithin a3 ((0 : Int32)) ((200 : Int32)) σ6) fun r13 σ12 => if r13 = 0 then j11 σ12 else fh_cb (f_X4_tryTicks k1 a3 σ12) fun _ σ14 => (fh_gr 4 k1 2).bind fun k15 => (fh_gr 0 k15 3).bind fun k16 => (fh_ld σ14 k16 a2).bind fun v17 => some (v17, σ14)))
abbrev rm_X4_going : Room := { frames := 6, cells := 0, slots := 0, locals := 132 }
theorem pd_X4_going : yX4_going.cls ≠ "java/lang/invoke/MethodHandle" ∧ yX4_going.cls ≠ "java/lang/invoke/VarHandle" ∧ (parseMethodDescriptor yX4_going.desc).map (fun d => d.parameters.length) = some 2 := by decide +kernel
theorem dX4_going_0 : decode cX4_going 0 = .ok (.aload_n 0, 1) := by decide +kernel
theorem dX4_going_1 : decode cX4_going 1 = .ok (.getfield 12, 3) := by decide +kernel
theorem dX4_going_4 : decode cX4_going 4 = .ok (.iload_n 1, 1) := by decide +kernel
theorem dX4_going_5 : decode cX4_going 5 = .ok (.invokevirtual 70, 3) := by decide +kernel
theorem dX4_going_8 : decode cX4_going 8 = .ok (.ifCond .eq 14, 3) := by decide +kernel
theorem dX4_going_11 : decode cX4_going 11 = .ok (.iload_n 2, 1) := by decide +kernel
theorem dX4_going_12 : decode cX4_going 12 = .ok (.iconst 0, 1) := by decide +kernel
theorem dX4_going_13 : decode cX4_going 13 = .ok (.sipush 200, 3) := by decide +kernel
theorem dX4_going_16 : decode cX4_going 16 = .ok (.invokestatic 84, 3) := by decide +kernel
theorem dX4_going_19 : decode cX4_going 19 = .ok (.ifCond .ne 10, 3) := by decide +kernel
theorem dX4_going_22 : decode cX4_going 22 = .ok (.aload_n 0, 1) := by decide +kernel
theorem dX4_going_23 : decode cX4_going 23 = .ok (.ldc 57, 2) := by decide +kernel
theorem dX4_going_25 : decode cX4_going 25 = .ok (.invokevirtual 58, 3) := by decide +kernel
theorem dX4_going_28 : decode cX4_going 28 = .ok (.ireturn, 1) := by decide +kernel
theorem dX4_going_29 : decode cX4_going 29 = .ok (.aload_n 0, 1) := by decide +kernel
theorem dX4_going_30 : decode cX4_going 30 = .ok (.iload_n 2, 1) := by decide +kernel
theorem dX4_going_31 : decode cX4_going 31 = .ok (.invokevirtual 155, 3) := by decide +kernel
theorem dX4_going_34 : decode cX4_going 34 = .ok (.aload_n 0, 1) := by decide +kernel
theorem dX4_going_35 : decode cX4_going 35 = .ok (.getfield 19, 3) := by decide +kernel
theorem dX4_going_38 : decode cX4_going 38 = .ok (.getfield 121, 3) := by decide +kernel
theorem dX4_going_41 : decode cX4_going 41 = .ok (.iload_n 1, 1) := by decide +kernel
theorem dX4_going_42 : decode cX4_going 42 = .ok (.iaload, 1) := by decide +kernel
theorem dX4_going_43 : decode cX4_going 43 = .ok (.ireturn, 1) := by decide +kernel
set_option maxHeartbeats 4000000 in
set_option maxRecDepth 100000 in
theorem g_X4_going {E : fh_E} {M : fh_M} (C : fh_Cx E M cX4_going 3 RX4 ((some FieldType.int)) rm_X4_going) (Hr : fh_Rt E M) (k1 : Nat) (a2 : Int32) (a3 : Int32) (σ4 : fh_S) : fh_Go E M 3 fh_vI 0 [(0, .ref (fh_ad E k1)), (1, .int a2), (2, .int a3)] [] σ4 (f_X4_going k1 a2 a3 σ4) := by
  have hok := fh_cok C
  refine go_ob ?_
  refine go_aload_n C 0 rfl rfl dX4_going_0 ?_
  refine go_gr (ci := 4) (j := 0) C fh_in4 rfl (by decide) rfl q_138 dX4_going_1 (fun k5 => ?_)
  refine go_iload_n C 1 rfl rfl dX4_going_4 ?_
  refine go_callVI C (st := []) [.int a2] (m_X0_has E _ hok k5 a2 σ4) (fun _ h => fh_ob_ok h) rfl rfl ⟨q_196, q_197, q_198, q_2, q_199⟩ pd_X0_has rfl ⟨⟨Nat.le_of_ble_eq_true rfl, Nat.le_of_ble_eq_true rfl⟩, rfl, rfl⟩ (Nat.le_of_ble_eq_true rfl) dX4_going_5 (fun r7 σ6 => ?_)
  refine go_jn (fun (j11 : fh_S → Option (Int32 × fh_S)) => ∀ (σ8 : fh_S), fh_Go E M 3 fh_vI 22 [(0, .ref (fh_ad E k1))] [] σ8 (j11 σ8)) ?_ (fun j11 hj11 => ?_)
  · intro σ8
    refine go_aload_n C 0 rfl rfl dX4_going_22 ?_
    refine go_ldc C q_175 dX4_going_23 ?_
    refine go_callVI C (st := []) [.int ((-1000001 : Int32))] (m_X4_tell E _ hok k1 ((-1000001 : Int32)) σ8) (fun _ h => fh_ob_ok h) rfl rfl ⟨q_176, q_178, qs_0, q_1, q_179⟩ pd_X4_tell rfl ⟨⟨Nat.le_of_ble_eq_true rfl, Nat.le_of_ble_eq_true rfl⟩, rfl, rfl⟩ (Nat.le_of_ble_eq_true rfl) dX4_going_25 (fun r10 σ9 => ?_)
    exact go_iret C Hr rfl dX4_going_28
  refine go_if_eq (tgt := 22) C dX4_going_8 rfl (fun _ => ?_) (fun _ => ?_)
  · refine go_lv [0] (lv' := [(0, .ref (fh_ad E k1))]) rfl ?_
    exact hj11 σ6
  · refine go_iload_n C 2 rfl rfl dX4_going_11 ?_
    refine go_iconst C (0 : Int32) dX4_going_12 rfl ?_
    refine go_sipush C (200 : Int32) dX4_going_13 rfl ?_
    refine go_callSI C (st := []) [.int a3, .int ((0 : Int32)), .int ((200 : Int32))] (m_X4_isWithin E _ hok a3 ((0 : Int32)) ((200 : Int32)) σ6) rfl ⟨q_172, q_173, q_1, q_174⟩ pd_X4_isWithin rfl ⟨⟨Nat.le_of_ble_eq_true rfl, Nat.le_of_ble_eq_true rfl⟩, rfl, rfl⟩ (Nat.le_of_ble_eq_true rfl) dX4_going_16 (fun r13 σ12 => ?_)
    refine go_if_ne (tgt := 29) C dX4_going_19 rfl (fun _ => ?_) (fun _ => ?_)
    · refine go_aload_n C 0 rfl rfl dX4_going_29 ?_
      refine go_iload_n C 2 rfl rfl dX4_going_30 ?_
      refine go_callVU C (st := []) [.int a3] (m_X4_tryTicks E _ hok k1 a3 σ12) (fun _ h => fh_ob_ok h) rfl rfl ⟨q_374, q_376, qs_3, q_1, q_377⟩ pd_X4_tryTicks rfl ⟨⟨Nat.le_of_ble_eq_true rfl, Nat.le_of_ble_eq_true rfl⟩, rfl, rfl⟩ (Nat.le_of_ble_eq_true rfl) dX4_going_31 (fun _ σ14 => ?_)
      refine go_aload_n C 0 rfl rfl dX4_going_34 ?_
      refine go_gr (ci := 4) (j := 2) C fh_in4 rfl (by decide) rfl q_140 dX4_going_35 (fun k15 => ?_)
      refine go_gr (ci := 0) (j := 3) C fh_in0 rfl (by decide) rfl q_38 dX4_going_38 (fun k16 => ?_)
      refine go_iload_n C 1 rfl rfl dX4_going_41 ?_
      refine go_iald C dX4_going_42 (fun v17 => ?_)
      exact go_iret C Hr rfl dX4_going_43
    · refine go_lv [0] (lv' := [(0, .ref (fh_ad E k1))]) rfl ?_
      exact hj11 σ12
theorem m_X4_going (E : fh_E) (l : Launch) (hok : fh_ok E) (k1 : Nat) (a2 : Int32) (a3 : Int32) (σ4 : fh_S) : fh_Met E l yX4_going cX4_going 3 ((some FieldType.int)) rm_X4_going fh_vI [.ref (fh_ad E k1), .int a2, .int a3] σ4 (f_X4_going k1 a2 a3 σ4) := fh_met hok (by decide +kernel) (Nat.le_of_ble_eq_true rfl) (fun M _ C Hr => g_X4_going C Hr k1 a2 a3 σ4)
def f_X4_shows_J18 (k1 : Nat) : fh_S → Option (Int32 × fh_S) := fun σ8 => fh_cb (f_X4_tell k1 ((-1000001 : Int32)) σ8) fun r10 σ9 => some (r10, σ9)
def f_X4_shows_B38 (k1 : Nat) (a2 : Int32) (a3 : Int32) (r19 : Int32 → fh_S → Option (Int32 × fh_S)) : Int32 → fh_S → Option (Int32 × fh_S) := fun x17 σ18 => if ((200 : Int32)) < x17 then fh_cb (f_X4_tell k1 ((-1000004 : Int32)) σ18) fun r21 σ20 => some (r21, σ20) else (fh_gr 4 k1 2).bind fun k22 => (fh_gr 0 k22 1).bind fun k23 => (fh_ld σ18 k23 a2).bind fun v24 => if v24 = a3 then some (x17, σ18) else (fh_gr 4 k1 2).bind fun k25 => fh_cb (f_X0_passTick k25 σ18) fun _ σ26 => r19 (x17 + 1) σ26
def f_X4_shows (k1 : Nat) (a2 : Int32) (a3 : Int32) (σ4 : fh_S) : Option (Int32 × fh_S) := fh_ob 4 k1 ((fh_gr 4 k1 0).bind fun k5 => fh_cb (f_X0_has k5 a2 σ4) fun r7 σ6 => fh_jn (f_X4_shows_J18 k1) (fun j11 => if r7 = 0 then j11 σ6 else fh_cb (f_X4_isHour a3 σ6) fun r13 σ12 => if r13 = 0 then j11 σ12 else (fh_gr 4 k1 2).bind fun k14 => (fh_gr 4 k1 0).bind fun k15 => fh_cb (f_X0_become k14 k15 σ12) fun _ σ16 => fh_fx (ρ := Int32 → fh_S → Option (Int32 × fh_S)) (fun _ _ => none) (f_X4_shows_B38 k1 a2 a3) fh_fu ((0 : Int32)) σ16))
abbrev rm_X4_shows : Room := { frames := 4, cells := 0, slots := 0, locals := 89 }
theorem pd_X4_shows : yX4_shows.cls ≠ "java/lang/invoke/MethodHandle" ∧ yX4_shows.cls ≠ "java/lang/invoke/VarHandle" ∧ (parseMethodDescriptor yX4_shows.desc).map (fun d => d.parameters.length) = some 2 := by decide +kernel
theorem dX4_shows_0 : decode cX4_shows 0 = .ok (.aload_n 0, 1) := by decide +kernel
theorem dX4_shows_1 : decode cX4_shows 1 = .ok (.getfield 12, 3) := by decide +kernel
theorem dX4_shows_4 : decode cX4_shows 4 = .ok (.iload_n 1, 1) := by decide +kernel
theorem dX4_shows_5 : decode cX4_shows 5 = .ok (.invokevirtual 70, 3) := by decide +kernel
theorem dX4_shows_8 : decode cX4_shows 8 = .ok (.ifCond .eq 10, 3) := by decide +kernel
theorem dX4_shows_11 : decode cX4_shows 11 = .ok (.iload_n 2, 1) := by decide +kernel
theorem dX4_shows_12 : decode cX4_shows 12 = .ok (.invokestatic 158, 3) := by decide +kernel
theorem dX4_shows_15 : decode cX4_shows 15 = .ok (.ifCond .ne 10, 3) := by decide +kernel
theorem dX4_shows_18 : decode cX4_shows 18 = .ok (.aload_n 0, 1) := by decide +kernel
theorem dX4_shows_19 : decode cX4_shows 19 = .ok (.ldc 57, 2) := by decide +kernel
theorem dX4_shows_21 : decode cX4_shows 21 = .ok (.invokevirtual 58, 3) := by decide +kernel
theorem dX4_shows_24 : decode cX4_shows 24 = .ok (.ireturn, 1) := by decide +kernel
theorem dX4_shows_25 : decode cX4_shows 25 = .ok (.aload_n 0, 1) := by decide +kernel
theorem dX4_shows_26 : decode cX4_shows 26 = .ok (.getfield 19, 3) := by decide +kernel
theorem dX4_shows_29 : decode cX4_shows 29 = .ok (.aload_n 0, 1) := by decide +kernel
theorem dX4_shows_30 : decode cX4_shows 30 = .ok (.getfield 12, 3) := by decide +kernel
theorem dX4_shows_33 : decode cX4_shows 33 = .ok (.invokevirtual 161, 3) := by decide +kernel
theorem dX4_shows_36 : decode cX4_shows 36 = .ok (.iconst 0, 1) := by decide +kernel
theorem dX4_shows_37 : decode cX4_shows 37 = .ok (.istore_n 3, 1) := by decide +kernel
theorem dX4_shows_38 : decode cX4_shows 38 = .ok (.iload_n 3, 1) := by decide +kernel
theorem dX4_shows_39 : decode cX4_shows 39 = .ok (.sipush 200, 3) := by decide +kernel
theorem dX4_shows_42 : decode cX4_shows 42 = .ok (.if_icmp .gt 31, 3) := by decide +kernel
theorem dX4_shows_45 : decode cX4_shows 45 = .ok (.aload_n 0, 1) := by decide +kernel
theorem dX4_shows_46 : decode cX4_shows 46 = .ok (.getfield 19, 3) := by decide +kernel
theorem dX4_shows_49 : decode cX4_shows 49 = .ok (.getfield 92, 3) := by decide +kernel
theorem dX4_shows_52 : decode cX4_shows 52 = .ok (.iload_n 1, 1) := by decide +kernel
theorem dX4_shows_53 : decode cX4_shows 53 = .ok (.iaload, 1) := by decide +kernel
theorem dX4_shows_54 : decode cX4_shows 54 = .ok (.iload_n 2, 1) := by decide +kernel
theorem dX4_shows_55 : decode cX4_shows 55 = .ok (.if_icmp .ne 5, 3) := by decide +kernel
theorem dX4_shows_58 : decode cX4_shows 58 = .ok (.iload_n 3, 1) := by decide +kernel
theorem dX4_shows_59 : decode cX4_shows 59 = .ok (.ireturn, 1) := by decide +kernel
theorem dX4_shows_60 : decode cX4_shows 60 = .ok (.aload_n 0, 1) := by decide +kernel
theorem dX4_shows_61 : decode cX4_shows 61 = .ok (.getfield 19, 3) := by decide +kernel
theorem dX4_shows_64 : decode cX4_shows 64 = .ok (.invokevirtual 165, 3) := by decide +kernel
theorem dX4_shows_67 : decode cX4_shows 67 = .ok (.iinc 3 1, 3) := by decide +kernel
theorem dX4_shows_70 : decode cX4_shows 70 = .ok (.goto (-32), 3) := by decide +kernel
theorem dX4_shows_73 : decode cX4_shows 73 = .ok (.aload_n 0, 1) := by decide +kernel
theorem dX4_shows_74 : decode cX4_shows 74 = .ok (.ldc 154, 2) := by decide +kernel
theorem dX4_shows_76 : decode cX4_shows 76 = .ok (.invokevirtual 58, 3) := by decide +kernel
theorem dX4_shows_79 : decode cX4_shows 79 = .ok (.ireturn, 1) := by decide +kernel
set_option maxHeartbeats 4000000 in
set_option maxRecDepth 100000 in
theorem g_X4_shows {E : fh_E} {M : fh_M} (C : fh_Cx E M cX4_shows 4 RX4 ((some FieldType.int)) rm_X4_shows) (Hr : fh_Rt E M) (k1 : Nat) (a2 : Int32) (a3 : Int32) (σ4 : fh_S) : fh_Go E M 4 fh_vI 0 [(0, .ref (fh_ad E k1)), (1, .int a2), (2, .int a3)] [] σ4 (f_X4_shows k1 a2 a3 σ4) := by
  have hok := fh_cok C
  refine go_ob ?_
  refine go_aload_n C 0 rfl rfl dX4_shows_0 ?_
  refine go_gr (ci := 4) (j := 0) C fh_in4 rfl (by decide) rfl q_138 dX4_shows_1 (fun k5 => ?_)
  refine go_iload_n C 1 rfl rfl dX4_shows_4 ?_
  refine go_callVI C (st := []) [.int a2] (m_X0_has E _ hok k5 a2 σ4) (fun _ h => fh_ob_ok h) rfl rfl ⟨q_196, q_197, q_198, q_2, q_199⟩ pd_X0_has rfl ⟨⟨Nat.le_of_ble_eq_true rfl, Nat.le_of_ble_eq_true rfl⟩, rfl, rfl⟩ (Nat.le_of_ble_eq_true rfl) dX4_shows_5 (fun r7 σ6 => ?_)
  refine go_jn (fun (j11 : fh_S → Option (Int32 × fh_S)) => ∀ (σ8 : fh_S), fh_Go E M 4 fh_vI 18 [(0, .ref (fh_ad E k1))] [] σ8 (j11 σ8)) ?_ (fun j11 hj11 => ?_)
  · intro σ8
    refine go_aload_n C 0 rfl rfl dX4_shows_18 ?_
    refine go_ldc C q_175 dX4_shows_19 ?_
    refine go_callVI C (st := []) [.int ((-1000001 : Int32))] (m_X4_tell E _ hok k1 ((-1000001 : Int32)) σ8) (fun _ h => fh_ob_ok h) rfl rfl ⟨q_176, q_178, qs_0, q_1, q_179⟩ pd_X4_tell rfl ⟨⟨Nat.le_of_ble_eq_true rfl, Nat.le_of_ble_eq_true rfl⟩, rfl, rfl⟩ (Nat.le_of_ble_eq_true rfl) dX4_shows_21 (fun r10 σ9 => ?_)
    exact go_iret C Hr rfl dX4_shows_24
  refine go_if_eq (tgt := 18) C dX4_shows_8 rfl (fun _ => ?_) (fun _ => ?_)
  · refine go_lv [0] (lv' := [(0, .ref (fh_ad E k1))]) rfl ?_
    exact hj11 σ6
  · refine go_iload_n C 2 rfl rfl dX4_shows_11 ?_
    refine go_callSI C (st := []) [.int a3] (m_X4_isHour E _ hok a3 σ6) rfl ⟨q_393, q_231, q_1, q_232⟩ pd_X4_isHour rfl ⟨⟨Nat.le_of_ble_eq_true rfl, Nat.le_of_ble_eq_true rfl⟩, rfl, rfl⟩ (Nat.le_of_ble_eq_true rfl) dX4_shows_12 (fun r13 σ12 => ?_)
    refine go_if_ne (tgt := 25) C dX4_shows_15 rfl (fun _ => ?_) (fun _ => ?_)
    · refine go_aload_n C 0 rfl rfl dX4_shows_25 ?_
      refine go_gr (ci := 4) (j := 2) C fh_in4 rfl (by decide) rfl q_140 dX4_shows_26 (fun k14 => ?_)
      refine go_aload_n C 0 rfl rfl dX4_shows_29 ?_
      refine go_gr (ci := 4) (j := 0) C fh_in4 rfl (by decide) rfl q_138 dX4_shows_30 (fun k15 => ?_)
      refine go_callVU C (st := []) [.ref (fh_ad E k15)] (m_X0_become E _ hok k14 k15 σ12) (fun _ h => fh_ob_ok h) rfl rfl ⟨q_378, q_379, q_380, q_2, q_381⟩ pd_X0_become rfl ⟨⟨Nat.le_of_ble_eq_true rfl, Nat.le_of_ble_eq_true rfl⟩, rfl, rfl⟩ (Nat.le_of_ble_eq_true rfl) dX4_shows_33 (fun _ σ16 => ?_)
      refine go_iconst C (0 : Int32) dX4_shows_36 rfl ?_
      refine go_istore_n C [(3, .int ((0 : Int32))), (0, .ref (fh_ad E k1)), (1, .int a2), (2, .int a3)] rfl rfl (by decide) dX4_shows_37 ?_
      refine go_lv [1, 2, 3, 0] (lv' := [(0, .ref (fh_ad E k1)), (1, .int a2), (2, .int a3), (3, .int ((0 : Int32)))]) rfl ?_
      refine go_fx (fun (r19 : Int32 → fh_S → Option (Int32 × fh_S)) => ∀ (x17 : Int32) (σ18 : fh_S), fh_Go E M 4 fh_vI 38 [(0, .ref (fh_ad E k1)), (1, .int a2), (2, .int a3), (3, .int x17)] [] σ18 (r19 x17 σ18)) ?_ ?_ fh_fu ((0 : Int32)) σ16
      · intro x17 σ18
        exact go_none
      · intro r19 hr19 x17 σ18
        refine go_iload_n C 3 rfl rfl dX4_shows_38 ?_
        refine go_sipush C (200 : Int32) dX4_shows_39 rfl ?_
        refine go_icmp_gt (tgt := 73) C dX4_shows_42 rfl (fun _ => ?_) (fun _ => ?_)
        · refine go_aload_n C 0 rfl rfl dX4_shows_73 ?_
          refine go_ldc C q_369 dX4_shows_74 ?_
          refine go_callVI C (st := []) [.int ((-1000004 : Int32))] (m_X4_tell E _ hok k1 ((-1000004 : Int32)) σ18) (fun _ h => fh_ob_ok h) rfl rfl ⟨q_176, q_178, qs_0, q_1, q_179⟩ pd_X4_tell rfl ⟨⟨Nat.le_of_ble_eq_true rfl, Nat.le_of_ble_eq_true rfl⟩, rfl, rfl⟩ (Nat.le_of_ble_eq_true rfl) dX4_shows_76 (fun r21 σ20 => ?_)
          exact go_iret C Hr rfl dX4_shows_79
        · refine go_aload_n C 0 rfl rfl dX4_shows_45 ?_
          refine go_gr (ci := 4) (j := 2) C fh_in4 rfl (by decide) rfl q_140 dX4_shows_46 (fun k22 => ?_)
          refine go_gr (ci := 0) (j := 1) C fh_in0 rfl (by decide) rfl q_32 dX4_shows_49 (fun k23 => ?_)
          refine go_iload_n C 1 rfl rfl dX4_shows_52 ?_
          refine go_iald C dX4_shows_53 (fun v24 => ?_)
          refine go_iload_n C 2 rfl rfl dX4_shows_54 ?_
          refine go_icmp_ne (tgt := 60) C dX4_shows_55 rfl (fun _ => ?_) (fun _ => ?_)
          · refine go_aload_n C 0 rfl rfl dX4_shows_60 ?_
            refine go_gr (ci := 4) (j := 2) C fh_in4 rfl (by decide) rfl q_140 dX4_shows_61 (fun k25 => ?_)
            refine go_callVU C (st := []) [] (m_X0_passTick E _ hok k25 σ18) (fun _ h => fh_ob_ok h) rfl rfl ⟨q_394, q_272, q_273, q_2, q_274⟩ pd_X0_passTick rfl ⟨⟨Nat.le_of_ble_eq_true rfl, Nat.le_of_ble_eq_true rfl⟩, rfl, rfl⟩ (Nat.le_of_ble_eq_true rfl) dX4_shows_64 (fun _ σ26 => ?_)
            refine go_iinc C (x17 + 1) 3 [(3, .int (x17 + 1)), (0, .ref (fh_ad E k1)), (1, .int a2), (2, .int a3)] rfl rfl rfl (by decide) dX4_shows_67 ?_
            refine go_goto C 38 dX4_shows_70 rfl ?_
            refine go_lv [1, 2, 3, 0] (lv' := [(0, .ref (fh_ad E k1)), (1, .int a2), (2, .int a3), (3, .int (x17 + 1))]) rfl ?_
            exact hr19 (x17 + 1) σ26
          · refine go_iload_n C 3 rfl rfl dX4_shows_58 ?_
            exact go_iret C Hr rfl dX4_shows_59
    · refine go_lv [0] (lv' := [(0, .ref (fh_ad E k1))]) rfl ?_
      exact hj11 σ12
theorem m_X4_shows (E : fh_E) (l : Launch) (hok : fh_ok E) (k1 : Nat) (a2 : Int32) (a3 : Int32) (σ4 : fh_S) : fh_Met E l yX4_shows cX4_shows 4 ((some FieldType.int)) rm_X4_shows fh_vI [.ref (fh_ad E k1), .int a2, .int a3] σ4 (f_X4_shows k1 a2 a3 σ4) := fh_met hok (by decide +kernel) (Nat.le_of_ble_eq_true rfl) (fun M _ C Hr => g_X4_shows C Hr k1 a2 a3 σ4)
def f_X4_meet_J27 (k1 : Nat) : fh_S → Option (Int32 × fh_S) := fun σ8 => fh_cb (f_X4_tell k1 ((-1000001 : Int32)) σ8) fun r10 σ9 => some (r10, σ9)
def f_X4_meet_B47 (k1 : Nat) (a2 : Int32) (a3 : Int32) (r20 : Int32 → fh_S → Option (Int32 × fh_S)) : Int32 → fh_S → Option (Int32 × fh_S) := fun x18 σ19 => if ((200 : Int32)) < x18 then fh_cb (f_X4_tell k1 ((-1000004 : Int32)) σ19) fun r22 σ21 => some (r22, σ21) else (fh_gr 4 k1 2).bind fun k23 => (fh_gr 0 k23 1).bind fun k24 => (fh_ld σ19 k24 a2).bind fun v25 => (fh_gr 4 k1 2).bind fun k26 => (fh_gr 0 k26 1).bind fun k27 => (fh_ld σ19 k27 a3).bind fun v28 => if v25 = v28 then some (x18, σ19) else (fh_gr 4 k1 2).bind fun k29 => fh_cb (f_X0_passTick k29 σ19) fun _ σ30 => r20 (x18 + 1) σ30
def f_X4_meet (k1 : Nat) (a2 : Int32) (a3 : Int32) (σ4 : fh_S) : Option (Int32 × fh_S) := fh_ob 4 k1 ((fh_gr 4 k1 0).bind fun k5 => fh_cb (f_X0_has k5 a2 σ4) fun r7 σ6 => fh_jn (f_X4_meet_J27 k1) (fun j11 => if r7 = 0 then j11 σ6 else (fh_gr 4 k1 0).bind fun k12 => fh_cb (f_X0_has k12 a3 σ6) fun r14 σ13 => if r14 = 0 then j11 σ13 else if a2 = a3 then j11 σ13 else (fh_gr 4 k1 2).bind fun k15 => (fh_gr 4 k1 0).bind fun k16 => fh_cb (f_X0_become k15 k16 σ13) fun _ σ17 => fh_fx (ρ := Int32 → fh_S → Option (Int32 × fh_S)) (fun _ _ => none) (f_X4_meet_B47 k1 a2 a3) fh_fu ((0 : Int32)) σ17))
abbrev rm_X4_meet : Room := { frames := 4, cells := 0, slots := 0, locals := 89 }
theorem pd_X4_meet : yX4_meet.cls ≠ "java/lang/invoke/MethodHandle" ∧ yX4_meet.cls ≠ "java/lang/invoke/VarHandle" ∧ (parseMethodDescriptor yX4_meet.desc).map (fun d => d.parameters.length) = some 2 := by decide +kernel
theorem dX4_meet_0 : decode cX4_meet 0 = .ok (.aload_n 0, 1) := by decide +kernel
theorem dX4_meet_1 : decode cX4_meet 1 = .ok (.getfield 12, 3) := by decide +kernel
theorem dX4_meet_4 : decode cX4_meet 4 = .ok (.iload_n 1, 1) := by decide +kernel
theorem dX4_meet_5 : decode cX4_meet 5 = .ok (.invokevirtual 70, 3) := by decide +kernel
theorem dX4_meet_8 : decode cX4_meet 8 = .ok (.ifCond .eq 19, 3) := by decide +kernel
theorem dX4_meet_11 : decode cX4_meet 11 = .ok (.aload_n 0, 1) := by decide +kernel
theorem dX4_meet_12 : decode cX4_meet 12 = .ok (.getfield 12, 3) := by decide +kernel
theorem dX4_meet_15 : decode cX4_meet 15 = .ok (.iload_n 2, 1) := by decide +kernel
theorem dX4_meet_16 : decode cX4_meet 16 = .ok (.invokevirtual 70, 3) := by decide +kernel
theorem dX4_meet_19 : decode cX4_meet 19 = .ok (.ifCond .eq 8, 3) := by decide +kernel
theorem dX4_meet_22 : decode cX4_meet 22 = .ok (.iload_n 1, 1) := by decide +kernel
theorem dX4_meet_23 : decode cX4_meet 23 = .ok (.iload_n 2, 1) := by decide +kernel
theorem dX4_meet_24 : decode cX4_meet 24 = .ok (.if_icmp .ne 10, 3) := by decide +kernel
theorem dX4_meet_27 : decode cX4_meet 27 = .ok (.aload_n 0, 1) := by decide +kernel
theorem dX4_meet_28 : decode cX4_meet 28 = .ok (.ldc 57, 2) := by decide +kernel
theorem dX4_meet_30 : decode cX4_meet 30 = .ok (.invokevirtual 58, 3) := by decide +kernel
theorem dX4_meet_33 : decode cX4_meet 33 = .ok (.ireturn, 1) := by decide +kernel
theorem dX4_meet_34 : decode cX4_meet 34 = .ok (.aload_n 0, 1) := by decide +kernel
theorem dX4_meet_35 : decode cX4_meet 35 = .ok (.getfield 19, 3) := by decide +kernel
theorem dX4_meet_38 : decode cX4_meet 38 = .ok (.aload_n 0, 1) := by decide +kernel
theorem dX4_meet_39 : decode cX4_meet 39 = .ok (.getfield 12, 3) := by decide +kernel
theorem dX4_meet_42 : decode cX4_meet 42 = .ok (.invokevirtual 161, 3) := by decide +kernel
theorem dX4_meet_45 : decode cX4_meet 45 = .ok (.iconst 0, 1) := by decide +kernel
theorem dX4_meet_46 : decode cX4_meet 46 = .ok (.istore_n 3, 1) := by decide +kernel
theorem dX4_meet_47 : decode cX4_meet 47 = .ok (.iload_n 3, 1) := by decide +kernel
theorem dX4_meet_48 : decode cX4_meet 48 = .ok (.sipush 200, 3) := by decide +kernel
theorem dX4_meet_51 : decode cX4_meet 51 = .ok (.if_icmp .gt 39, 3) := by decide +kernel
theorem dX4_meet_54 : decode cX4_meet 54 = .ok (.aload_n 0, 1) := by decide +kernel
theorem dX4_meet_55 : decode cX4_meet 55 = .ok (.getfield 19, 3) := by decide +kernel
theorem dX4_meet_58 : decode cX4_meet 58 = .ok (.getfield 92, 3) := by decide +kernel
theorem dX4_meet_61 : decode cX4_meet 61 = .ok (.iload_n 1, 1) := by decide +kernel
theorem dX4_meet_62 : decode cX4_meet 62 = .ok (.iaload, 1) := by decide +kernel
theorem dX4_meet_63 : decode cX4_meet 63 = .ok (.aload_n 0, 1) := by decide +kernel
theorem dX4_meet_64 : decode cX4_meet 64 = .ok (.getfield 19, 3) := by decide +kernel
theorem dX4_meet_67 : decode cX4_meet 67 = .ok (.getfield 92, 3) := by decide +kernel
theorem dX4_meet_70 : decode cX4_meet 70 = .ok (.iload_n 2, 1) := by decide +kernel
theorem dX4_meet_71 : decode cX4_meet 71 = .ok (.iaload, 1) := by decide +kernel
theorem dX4_meet_72 : decode cX4_meet 72 = .ok (.if_icmp .ne 5, 3) := by decide +kernel
theorem dX4_meet_75 : decode cX4_meet 75 = .ok (.iload_n 3, 1) := by decide +kernel
theorem dX4_meet_76 : decode cX4_meet 76 = .ok (.ireturn, 1) := by decide +kernel
theorem dX4_meet_77 : decode cX4_meet 77 = .ok (.aload_n 0, 1) := by decide +kernel
theorem dX4_meet_78 : decode cX4_meet 78 = .ok (.getfield 19, 3) := by decide +kernel
theorem dX4_meet_81 : decode cX4_meet 81 = .ok (.invokevirtual 165, 3) := by decide +kernel
theorem dX4_meet_84 : decode cX4_meet 84 = .ok (.iinc 3 1, 3) := by decide +kernel
theorem dX4_meet_87 : decode cX4_meet 87 = .ok (.goto (-40), 3) := by decide +kernel
theorem dX4_meet_90 : decode cX4_meet 90 = .ok (.aload_n 0, 1) := by decide +kernel
theorem dX4_meet_91 : decode cX4_meet 91 = .ok (.ldc 154, 2) := by decide +kernel
theorem dX4_meet_93 : decode cX4_meet 93 = .ok (.invokevirtual 58, 3) := by decide +kernel
theorem dX4_meet_96 : decode cX4_meet 96 = .ok (.ireturn, 1) := by decide +kernel
set_option maxHeartbeats 4000000 in
set_option maxRecDepth 100000 in
theorem g_X4_meet {E : fh_E} {M : fh_M} (C : fh_Cx E M cX4_meet 4 RX4 ((some FieldType.int)) rm_X4_meet) (Hr : fh_Rt E M) (k1 : Nat) (a2 : Int32) (a3 : Int32) (σ4 : fh_S) : fh_Go E M 4 fh_vI 0 [(0, .ref (fh_ad E k1)), (1, .int a2), (2, .int a3)] [] σ4 (f_X4_meet k1 a2 a3 σ4) := by
  have hok := fh_cok C
  refine go_ob ?_
  refine go_aload_n C 0 rfl rfl dX4_meet_0 ?_
  refine go_gr (ci := 4) (j := 0) C fh_in4 rfl (by decide) rfl q_138 dX4_meet_1 (fun k5 => ?_)
  refine go_iload_n C 1 rfl rfl dX4_meet_4 ?_
  refine go_callVI C (st := []) [.int a2] (m_X0_has E _ hok k5 a2 σ4) (fun _ h => fh_ob_ok h) rfl rfl ⟨q_196, q_197, q_198, q_2, q_199⟩ pd_X0_has rfl ⟨⟨Nat.le_of_ble_eq_true rfl, Nat.le_of_ble_eq_true rfl⟩, rfl, rfl⟩ (Nat.le_of_ble_eq_true rfl) dX4_meet_5 (fun r7 σ6 => ?_)
  refine go_jn (fun (j11 : fh_S → Option (Int32 × fh_S)) => ∀ (σ8 : fh_S), fh_Go E M 4 fh_vI 27 [(0, .ref (fh_ad E k1))] [] σ8 (j11 σ8)) ?_ (fun j11 hj11 => ?_)
  · intro σ8
    refine go_aload_n C 0 rfl rfl dX4_meet_27 ?_
    refine go_ldc C q_175 dX4_meet_28 ?_
    refine go_callVI C (st := []) [.int ((-1000001 : Int32))] (m_X4_tell E _ hok k1 ((-1000001 : Int32)) σ8) (fun _ h => fh_ob_ok h) rfl rfl ⟨q_176, q_178, qs_0, q_1, q_179⟩ pd_X4_tell rfl ⟨⟨Nat.le_of_ble_eq_true rfl, Nat.le_of_ble_eq_true rfl⟩, rfl, rfl⟩ (Nat.le_of_ble_eq_true rfl) dX4_meet_30 (fun r10 σ9 => ?_)
    exact go_iret C Hr rfl dX4_meet_33
  refine go_if_eq (tgt := 27) C dX4_meet_8 rfl (fun _ => ?_) (fun _ => ?_)
  · refine go_lv [0] (lv' := [(0, .ref (fh_ad E k1))]) rfl ?_
    exact hj11 σ6
  · refine go_aload_n C 0 rfl rfl dX4_meet_11 ?_
    refine go_gr (ci := 4) (j := 0) C fh_in4 rfl (by decide) rfl q_138 dX4_meet_12 (fun k12 => ?_)
    refine go_iload_n C 2 rfl rfl dX4_meet_15 ?_
    refine go_callVI C (st := []) [.int a3] (m_X0_has E _ hok k12 a3 σ6) (fun _ h => fh_ob_ok h) rfl rfl ⟨q_196, q_197, q_198, q_2, q_199⟩ pd_X0_has rfl ⟨⟨Nat.le_of_ble_eq_true rfl, Nat.le_of_ble_eq_true rfl⟩, rfl, rfl⟩ (Nat.le_of_ble_eq_true rfl) dX4_meet_16 (fun r14 σ13 => ?_)
    refine go_if_eq (tgt := 27) C dX4_meet_19 rfl (fun _ => ?_) (fun _ => ?_)
    · refine go_lv [0] (lv' := [(0, .ref (fh_ad E k1))]) rfl ?_
      exact hj11 σ13
    · refine go_iload_n C 1 rfl rfl dX4_meet_22 ?_
      refine go_iload_n C 2 rfl rfl dX4_meet_23 ?_
      refine go_icmp_ne (tgt := 34) C dX4_meet_24 rfl (fun _ => ?_) (fun _ => ?_)
      · refine go_aload_n C 0 rfl rfl dX4_meet_34 ?_
        refine go_gr (ci := 4) (j := 2) C fh_in4 rfl (by decide) rfl q_140 dX4_meet_35 (fun k15 => ?_)
        refine go_aload_n C 0 rfl rfl dX4_meet_38 ?_
        refine go_gr (ci := 4) (j := 0) C fh_in4 rfl (by decide) rfl q_138 dX4_meet_39 (fun k16 => ?_)
        refine go_callVU C (st := []) [.ref (fh_ad E k16)] (m_X0_become E _ hok k15 k16 σ13) (fun _ h => fh_ob_ok h) rfl rfl ⟨q_378, q_379, q_380, q_2, q_381⟩ pd_X0_become rfl ⟨⟨Nat.le_of_ble_eq_true rfl, Nat.le_of_ble_eq_true rfl⟩, rfl, rfl⟩ (Nat.le_of_ble_eq_true rfl) dX4_meet_42 (fun _ σ17 => ?_)
        refine go_iconst C (0 : Int32) dX4_meet_45 rfl ?_
        refine go_istore_n C [(3, .int ((0 : Int32))), (0, .ref (fh_ad E k1)), (1, .int a2), (2, .int a3)] rfl rfl (by decide) dX4_meet_46 ?_
        refine go_lv [1, 2, 3, 0] (lv' := [(0, .ref (fh_ad E k1)), (1, .int a2), (2, .int a3), (3, .int ((0 : Int32)))]) rfl ?_
        refine go_fx (fun (r20 : Int32 → fh_S → Option (Int32 × fh_S)) => ∀ (x18 : Int32) (σ19 : fh_S), fh_Go E M 4 fh_vI 47 [(0, .ref (fh_ad E k1)), (1, .int a2), (2, .int a3), (3, .int x18)] [] σ19 (r20 x18 σ19)) ?_ ?_ fh_fu ((0 : Int32)) σ17
        · intro x18 σ19
          exact go_none
        · intro r20 hr20 x18 σ19
          refine go_iload_n C 3 rfl rfl dX4_meet_47 ?_
          refine go_sipush C (200 : Int32) dX4_meet_48 rfl ?_
          refine go_icmp_gt (tgt := 90) C dX4_meet_51 rfl (fun _ => ?_) (fun _ => ?_)
          · refine go_aload_n C 0 rfl rfl dX4_meet_90 ?_
            refine go_ldc C q_369 dX4_meet_91 ?_
            refine go_callVI C (st := []) [.int ((-1000004 : Int32))] (m_X4_tell E _ hok k1 ((-1000004 : Int32)) σ19) (fun _ h => fh_ob_ok h) rfl rfl ⟨q_176, q_178, qs_0, q_1, q_179⟩ pd_X4_tell rfl ⟨⟨Nat.le_of_ble_eq_true rfl, Nat.le_of_ble_eq_true rfl⟩, rfl, rfl⟩ (Nat.le_of_ble_eq_true rfl) dX4_meet_93 (fun r22 σ21 => ?_)
            exact go_iret C Hr rfl dX4_meet_96
          · refine go_aload_n C 0 rfl rfl dX4_meet_54 ?_
            refine go_gr (ci := 4) (j := 2) C fh_in4 rfl (by decide) rfl q_140 dX4_meet_55 (fun k23 => ?_)
            refine go_gr (ci := 0) (j := 1) C fh_in0 rfl (by decide) rfl q_32 dX4_meet_58 (fun k24 => ?_)
            refine go_iload_n C 1 rfl rfl dX4_meet_61 ?_
            refine go_iald C dX4_meet_62 (fun v25 => ?_)
            refine go_aload_n C 0 rfl rfl dX4_meet_63 ?_
            refine go_gr (ci := 4) (j := 2) C fh_in4 rfl (by decide) rfl q_140 dX4_meet_64 (fun k26 => ?_)
            refine go_gr (ci := 0) (j := 1) C fh_in0 rfl (by decide) rfl q_32 dX4_meet_67 (fun k27 => ?_)
            refine go_iload_n C 2 rfl rfl dX4_meet_70 ?_
            refine go_iald C dX4_meet_71 (fun v28 => ?_)
            refine go_icmp_ne (tgt := 77) C dX4_meet_72 rfl (fun _ => ?_) (fun _ => ?_)
            · refine go_aload_n C 0 rfl rfl dX4_meet_77 ?_
              refine go_gr (ci := 4) (j := 2) C fh_in4 rfl (by decide) rfl q_140 dX4_meet_78 (fun k29 => ?_)
              refine go_callVU C (st := []) [] (m_X0_passTick E _ hok k29 σ19) (fun _ h => fh_ob_ok h) rfl rfl ⟨q_394, q_272, q_273, q_2, q_274⟩ pd_X0_passTick rfl ⟨⟨Nat.le_of_ble_eq_true rfl, Nat.le_of_ble_eq_true rfl⟩, rfl, rfl⟩ (Nat.le_of_ble_eq_true rfl) dX4_meet_81 (fun _ σ30 => ?_)
              refine go_iinc C (x18 + 1) 3 [(3, .int (x18 + 1)), (0, .ref (fh_ad E k1)), (1, .int a2), (2, .int a3)] rfl rfl rfl (by decide) dX4_meet_84 ?_
              refine go_goto C 47 dX4_meet_87 rfl ?_
              refine go_lv [1, 2, 3, 0] (lv' := [(0, .ref (fh_ad E k1)), (1, .int a2), (2, .int a3), (3, .int (x18 + 1))]) rfl ?_
              exact hr20 (x18 + 1) σ30
            · refine go_iload_n C 3 rfl rfl dX4_meet_75 ?_
              exact go_iret C Hr rfl dX4_meet_76
      · refine go_lv [0] (lv' := [(0, .ref (fh_ad E k1))]) rfl ?_
        exact hj11 σ13
theorem m_X4_meet (E : fh_E) (l : Launch) (hok : fh_ok E) (k1 : Nat) (a2 : Int32) (a3 : Int32) (σ4 : fh_S) : fh_Met E l yX4_meet cX4_meet 4 ((some FieldType.int)) rm_X4_meet fh_vI [.ref (fh_ad E k1), .int a2, .int a3] σ4 (f_X4_meet k1 a2 a3 σ4) := fh_met hok (by decide +kernel) (Nat.le_of_ble_eq_true rfl) (fun M _ C Hr => g_X4_meet C Hr k1 a2 a3 σ4)
def f_X4_halts_B31 (k1 : Nat) (a2 : Int32) (r12 : Int32 → fh_S → Option (Int32 × fh_S)) : Int32 → fh_S → Option (Int32 × fh_S) := fun x10 σ11 => if ((200 : Int32)) < x10 then fh_cb (f_X4_tell k1 ((-1000004 : Int32)) σ11) fun r14 σ13 => some (r14, σ13) else (fh_gr 4 k1 2).bind fun k15 => (fh_gr 0 k15 3).bind fun k16 => (fh_ld σ11 k16 a2).bind fun v17 => if v17 = 0 then some (x10, σ11) else (fh_gr 4 k1 2).bind fun k18 => fh_cb (f_X0_passTick k18 σ11) fun _ σ19 => r12 (x10 + 1) σ19
def f_X4_halts (k1 : Nat) (a2 : Int32) (σ3 : fh_S) : Option (Int32 × fh_S) := fh_ob 4 k1 ((fh_gr 4 k1 0).bind fun k4 => fh_cb (f_X0_has k4 a2 σ3) fun r6 σ5 => if r6 = 0 then fh_cb (f_X4_tell k1 ((-1000001 : Int32)) σ5) fun r21 σ20 => some (r21, σ20) else (fh_gr 4 k1 2).bind fun k7 => (fh_gr 4 k1 0).bind fun k8 => fh_cb (f_X0_become k7 k8 σ5) fun _ σ9 => fh_fx (ρ := Int32 → fh_S → Option (Int32 × fh_S)) (fun _ _ => none) (f_X4_halts_B31 k1 a2) fh_fu ((0 : Int32)) σ9)
abbrev rm_X4_halts : Room := { frames := 4, cells := 0, slots := 0, locals := 89 }
theorem pd_X4_halts : yX4_halts.cls ≠ "java/lang/invoke/MethodHandle" ∧ yX4_halts.cls ≠ "java/lang/invoke/VarHandle" ∧ (parseMethodDescriptor yX4_halts.desc).map (fun d => d.parameters.length) = some 1 := by decide +kernel
theorem dX4_halts_0 : decode cX4_halts 0 = .ok (.aload_n 0, 1) := by decide +kernel
theorem dX4_halts_1 : decode cX4_halts 1 = .ok (.getfield 12, 3) := by decide +kernel
theorem dX4_halts_4 : decode cX4_halts 4 = .ok (.iload_n 1, 1) := by decide +kernel
theorem dX4_halts_5 : decode cX4_halts 5 = .ok (.invokevirtual 70, 3) := by decide +kernel
theorem dX4_halts_8 : decode cX4_halts 8 = .ok (.ifCond .ne 10, 3) := by decide +kernel
theorem dX4_halts_11 : decode cX4_halts 11 = .ok (.aload_n 0, 1) := by decide +kernel
theorem dX4_halts_12 : decode cX4_halts 12 = .ok (.ldc 57, 2) := by decide +kernel
theorem dX4_halts_14 : decode cX4_halts 14 = .ok (.invokevirtual 58, 3) := by decide +kernel
theorem dX4_halts_17 : decode cX4_halts 17 = .ok (.ireturn, 1) := by decide +kernel
theorem dX4_halts_18 : decode cX4_halts 18 = .ok (.aload_n 0, 1) := by decide +kernel
theorem dX4_halts_19 : decode cX4_halts 19 = .ok (.getfield 19, 3) := by decide +kernel
theorem dX4_halts_22 : decode cX4_halts 22 = .ok (.aload_n 0, 1) := by decide +kernel
theorem dX4_halts_23 : decode cX4_halts 23 = .ok (.getfield 12, 3) := by decide +kernel
theorem dX4_halts_26 : decode cX4_halts 26 = .ok (.invokevirtual 161, 3) := by decide +kernel
theorem dX4_halts_29 : decode cX4_halts 29 = .ok (.iconst 0, 1) := by decide +kernel
theorem dX4_halts_30 : decode cX4_halts 30 = .ok (.istore_n 2, 1) := by decide +kernel
theorem dX4_halts_31 : decode cX4_halts 31 = .ok (.iload_n 2, 1) := by decide +kernel
theorem dX4_halts_32 : decode cX4_halts 32 = .ok (.sipush 200, 3) := by decide +kernel
theorem dX4_halts_35 : decode cX4_halts 35 = .ok (.if_icmp .gt 30, 3) := by decide +kernel
theorem dX4_halts_38 : decode cX4_halts 38 = .ok (.aload_n 0, 1) := by decide +kernel
theorem dX4_halts_39 : decode cX4_halts 39 = .ok (.getfield 19, 3) := by decide +kernel
theorem dX4_halts_42 : decode cX4_halts 42 = .ok (.getfield 121, 3) := by decide +kernel
theorem dX4_halts_45 : decode cX4_halts 45 = .ok (.iload_n 1, 1) := by decide +kernel
theorem dX4_halts_46 : decode cX4_halts 46 = .ok (.iaload, 1) := by decide +kernel
theorem dX4_halts_47 : decode cX4_halts 47 = .ok (.ifCond .ne 5, 3) := by decide +kernel
theorem dX4_halts_50 : decode cX4_halts 50 = .ok (.iload_n 2, 1) := by decide +kernel
theorem dX4_halts_51 : decode cX4_halts 51 = .ok (.ireturn, 1) := by decide +kernel
theorem dX4_halts_52 : decode cX4_halts 52 = .ok (.aload_n 0, 1) := by decide +kernel
theorem dX4_halts_53 : decode cX4_halts 53 = .ok (.getfield 19, 3) := by decide +kernel
theorem dX4_halts_56 : decode cX4_halts 56 = .ok (.invokevirtual 165, 3) := by decide +kernel
theorem dX4_halts_59 : decode cX4_halts 59 = .ok (.iinc 2 1, 3) := by decide +kernel
theorem dX4_halts_62 : decode cX4_halts 62 = .ok (.goto (-31), 3) := by decide +kernel
theorem dX4_halts_65 : decode cX4_halts 65 = .ok (.aload_n 0, 1) := by decide +kernel
theorem dX4_halts_66 : decode cX4_halts 66 = .ok (.ldc 154, 2) := by decide +kernel
theorem dX4_halts_68 : decode cX4_halts 68 = .ok (.invokevirtual 58, 3) := by decide +kernel
theorem dX4_halts_71 : decode cX4_halts 71 = .ok (.ireturn, 1) := by decide +kernel
set_option maxHeartbeats 4000000 in
set_option maxRecDepth 100000 in
theorem g_X4_halts {E : fh_E} {M : fh_M} (C : fh_Cx E M cX4_halts 3 RX4 ((some FieldType.int)) rm_X4_halts) (Hr : fh_Rt E M) (k1 : Nat) (a2 : Int32) (σ3 : fh_S) : fh_Go E M 3 fh_vI 0 [(0, .ref (fh_ad E k1)), (1, .int a2)] [] σ3 (f_X4_halts k1 a2 σ3) := by
  have hok := fh_cok C
  refine go_ob ?_
  refine go_aload_n C 0 rfl rfl dX4_halts_0 ?_
  refine go_gr (ci := 4) (j := 0) C fh_in4 rfl (by decide) rfl q_138 dX4_halts_1 (fun k4 => ?_)
  refine go_iload_n C 1 rfl rfl dX4_halts_4 ?_
  refine go_callVI C (st := []) [.int a2] (m_X0_has E _ hok k4 a2 σ3) (fun _ h => fh_ob_ok h) rfl rfl ⟨q_196, q_197, q_198, q_2, q_199⟩ pd_X0_has rfl ⟨⟨Nat.le_of_ble_eq_true rfl, Nat.le_of_ble_eq_true rfl⟩, rfl, rfl⟩ (Nat.le_of_ble_eq_true rfl) dX4_halts_5 (fun r6 σ5 => ?_)
  refine go_if_ne (tgt := 18) C dX4_halts_8 rfl (fun _ => ?_) (fun _ => ?_)
  · refine go_aload_n C 0 rfl rfl dX4_halts_18 ?_
    refine go_gr (ci := 4) (j := 2) C fh_in4 rfl (by decide) rfl q_140 dX4_halts_19 (fun k7 => ?_)
    refine go_aload_n C 0 rfl rfl dX4_halts_22 ?_
    refine go_gr (ci := 4) (j := 0) C fh_in4 rfl (by decide) rfl q_138 dX4_halts_23 (fun k8 => ?_)
    refine go_callVU C (st := []) [.ref (fh_ad E k8)] (m_X0_become E _ hok k7 k8 σ5) (fun _ h => fh_ob_ok h) rfl rfl ⟨q_378, q_379, q_380, q_2, q_381⟩ pd_X0_become rfl ⟨⟨Nat.le_of_ble_eq_true rfl, Nat.le_of_ble_eq_true rfl⟩, rfl, rfl⟩ (Nat.le_of_ble_eq_true rfl) dX4_halts_26 (fun _ σ9 => ?_)
    refine go_iconst C (0 : Int32) dX4_halts_29 rfl ?_
    refine go_istore_n C [(2, .int ((0 : Int32))), (0, .ref (fh_ad E k1)), (1, .int a2)] rfl rfl (by decide) dX4_halts_30 ?_
    refine go_lv [1, 2, 0] (lv' := [(0, .ref (fh_ad E k1)), (1, .int a2), (2, .int ((0 : Int32)))]) rfl ?_
    refine go_fx (fun (r12 : Int32 → fh_S → Option (Int32 × fh_S)) => ∀ (x10 : Int32) (σ11 : fh_S), fh_Go E M 3 fh_vI 31 [(0, .ref (fh_ad E k1)), (1, .int a2), (2, .int x10)] [] σ11 (r12 x10 σ11)) ?_ ?_ fh_fu ((0 : Int32)) σ9
    · intro x10 σ11
      exact go_none
    · intro r12 hr12 x10 σ11
      refine go_iload_n C 2 rfl rfl dX4_halts_31 ?_
      refine go_sipush C (200 : Int32) dX4_halts_32 rfl ?_
      refine go_icmp_gt (tgt := 65) C dX4_halts_35 rfl (fun _ => ?_) (fun _ => ?_)
      · refine go_aload_n C 0 rfl rfl dX4_halts_65 ?_
        refine go_ldc C q_369 dX4_halts_66 ?_
        refine go_callVI C (st := []) [.int ((-1000004 : Int32))] (m_X4_tell E _ hok k1 ((-1000004 : Int32)) σ11) (fun _ h => fh_ob_ok h) rfl rfl ⟨q_176, q_178, qs_0, q_1, q_179⟩ pd_X4_tell rfl ⟨⟨Nat.le_of_ble_eq_true rfl, Nat.le_of_ble_eq_true rfl⟩, rfl, rfl⟩ (Nat.le_of_ble_eq_true rfl) dX4_halts_68 (fun r14 σ13 => ?_)
        exact go_iret C Hr rfl dX4_halts_71
      · refine go_aload_n C 0 rfl rfl dX4_halts_38 ?_
        refine go_gr (ci := 4) (j := 2) C fh_in4 rfl (by decide) rfl q_140 dX4_halts_39 (fun k15 => ?_)
        refine go_gr (ci := 0) (j := 3) C fh_in0 rfl (by decide) rfl q_38 dX4_halts_42 (fun k16 => ?_)
        refine go_iload_n C 1 rfl rfl dX4_halts_45 ?_
        refine go_iald C dX4_halts_46 (fun v17 => ?_)
        refine go_if_ne (tgt := 52) C dX4_halts_47 rfl (fun _ => ?_) (fun _ => ?_)
        · refine go_aload_n C 0 rfl rfl dX4_halts_52 ?_
          refine go_gr (ci := 4) (j := 2) C fh_in4 rfl (by decide) rfl q_140 dX4_halts_53 (fun k18 => ?_)
          refine go_callVU C (st := []) [] (m_X0_passTick E _ hok k18 σ11) (fun _ h => fh_ob_ok h) rfl rfl ⟨q_394, q_272, q_273, q_2, q_274⟩ pd_X0_passTick rfl ⟨⟨Nat.le_of_ble_eq_true rfl, Nat.le_of_ble_eq_true rfl⟩, rfl, rfl⟩ (Nat.le_of_ble_eq_true rfl) dX4_halts_56 (fun _ σ19 => ?_)
          refine go_iinc C (x10 + 1) 2 [(2, .int (x10 + 1)), (0, .ref (fh_ad E k1)), (1, .int a2)] rfl rfl rfl (by decide) dX4_halts_59 ?_
          refine go_goto C 31 dX4_halts_62 rfl ?_
          refine go_lv [1, 2, 0] (lv' := [(0, .ref (fh_ad E k1)), (1, .int a2), (2, .int (x10 + 1))]) rfl ?_
          exact hr12 (x10 + 1) σ19
        · refine go_iload_n C 2 rfl rfl dX4_halts_50 ?_
          exact go_iret C Hr rfl dX4_halts_51
  · refine go_aload_n C 0 rfl rfl dX4_halts_11 ?_
    refine go_ldc C q_175 dX4_halts_12 ?_
    refine go_callVI C (st := []) [.int ((-1000001 : Int32))] (m_X4_tell E _ hok k1 ((-1000001 : Int32)) σ5) (fun _ h => fh_ob_ok h) rfl rfl ⟨q_176, q_178, qs_0, q_1, q_179⟩ pd_X4_tell rfl ⟨⟨Nat.le_of_ble_eq_true rfl, Nat.le_of_ble_eq_true rfl⟩, rfl, rfl⟩ (Nat.le_of_ble_eq_true rfl) dX4_halts_14 (fun r21 σ20 => ?_)
    exact go_iret C Hr rfl dX4_halts_17
theorem m_X4_halts (E : fh_E) (l : Launch) (hok : fh_ok E) (k1 : Nat) (a2 : Int32) (σ3 : fh_S) : fh_Met E l yX4_halts cX4_halts 3 ((some FieldType.int)) rm_X4_halts fh_vI [.ref (fh_ad E k1), .int a2] σ3 (f_X4_halts k1 a2 σ3) := fh_met hok (by decide +kernel) (Nat.le_of_ble_eq_true rfl) (fun M _ C Hr => g_X4_halts C Hr k1 a2 σ3)
def f_X4_settles_B13 (k1 : Nat) (r8 : Int32 → fh_S → Option (Int32 × fh_S)) : Int32 → fh_S → Option (Int32 × fh_S) := fun x6 σ7 => if ((100 : Int32)) < x6 then fh_cb (f_X4_tell k1 ((-1000004 : Int32)) σ7) fun r10 σ9 => some (r10, σ9) else (fh_gr 4 k1 2).bind fun k11 => fh_cb (f_X0_markGoings k11 σ7) fun _ σ12 => (fh_gr 4 k1 2).bind fun k13 => fh_cb (f_X0_passTick k13 σ12) fun _ σ14 => (fh_gr 4 k1 2).bind fun k15 => fh_cb (f_X0_goesAsMarked k15 σ14) fun r17 σ16 => if r17 = 0 then r8 (x6 + 1) σ16 else some (x6, σ16)
def f_X4_settles (k1 : Nat) (σ2 : fh_S) : Option (Int32 × fh_S) := fh_ob 4 k1 ((fh_gr 4 k1 2).bind fun k3 => (fh_gr 4 k1 0).bind fun k4 => fh_cb (f_X0_become k3 k4 σ2) fun _ σ5 => fh_fx (ρ := Int32 → fh_S → Option (Int32 × fh_S)) (fun _ _ => none) (f_X4_settles_B13 k1) fh_fu ((0 : Int32)) σ5)
abbrev rm_X4_settles : Room := { frames := 4, cells := 0, slots := 0, locals := 89 }
theorem pd_X4_settles : yX4_settles.cls ≠ "java/lang/invoke/MethodHandle" ∧ yX4_settles.cls ≠ "java/lang/invoke/VarHandle" ∧ (parseMethodDescriptor yX4_settles.desc).map (fun d => d.parameters.length) = some 0 := by decide +kernel
theorem dX4_settles_0 : decode cX4_settles 0 = .ok (.aload_n 0, 1) := by decide +kernel
theorem dX4_settles_1 : decode cX4_settles 1 = .ok (.getfield 19, 3) := by decide +kernel
theorem dX4_settles_4 : decode cX4_settles 4 = .ok (.aload_n 0, 1) := by decide +kernel
theorem dX4_settles_5 : decode cX4_settles 5 = .ok (.getfield 12, 3) := by decide +kernel
theorem dX4_settles_8 : decode cX4_settles 8 = .ok (.invokevirtual 161, 3) := by decide +kernel
theorem dX4_settles_11 : decode cX4_settles 11 = .ok (.iconst 0, 1) := by decide +kernel
theorem dX4_settles_12 : decode cX4_settles 12 = .ok (.istore_n 1, 1) := by decide +kernel
theorem dX4_settles_13 : decode cX4_settles 13 = .ok (.iload_n 1, 1) := by decide +kernel
theorem dX4_settles_14 : decode cX4_settles 14 = .ok (.bipush 100, 2) := by decide +kernel
theorem dX4_settles_16 : decode cX4_settles 16 = .ok (.if_icmp .gt 35, 3) := by decide +kernel
theorem dX4_settles_19 : decode cX4_settles 19 = .ok (.aload_n 0, 1) := by decide +kernel
theorem dX4_settles_20 : decode cX4_settles 20 = .ok (.getfield 19, 3) := by decide +kernel
theorem dX4_settles_23 : decode cX4_settles 23 = .ok (.invokevirtual 168, 3) := by decide +kernel
theorem dX4_settles_26 : decode cX4_settles 26 = .ok (.aload_n 0, 1) := by decide +kernel
theorem dX4_settles_27 : decode cX4_settles 27 = .ok (.getfield 19, 3) := by decide +kernel
theorem dX4_settles_30 : decode cX4_settles 30 = .ok (.invokevirtual 165, 3) := by decide +kernel
theorem dX4_settles_33 : decode cX4_settles 33 = .ok (.aload_n 0, 1) := by decide +kernel
theorem dX4_settles_34 : decode cX4_settles 34 = .ok (.getfield 19, 3) := by decide +kernel
theorem dX4_settles_37 : decode cX4_settles 37 = .ok (.invokevirtual 171, 3) := by decide +kernel
theorem dX4_settles_40 : decode cX4_settles 40 = .ok (.ifCond .eq 5, 3) := by decide +kernel
theorem dX4_settles_43 : decode cX4_settles 43 = .ok (.iload_n 1, 1) := by decide +kernel
theorem dX4_settles_44 : decode cX4_settles 44 = .ok (.ireturn, 1) := by decide +kernel
theorem dX4_settles_45 : decode cX4_settles 45 = .ok (.iinc 1 1, 3) := by decide +kernel
theorem dX4_settles_48 : decode cX4_settles 48 = .ok (.goto (-35), 3) := by decide +kernel
theorem dX4_settles_51 : decode cX4_settles 51 = .ok (.aload_n 0, 1) := by decide +kernel
theorem dX4_settles_52 : decode cX4_settles 52 = .ok (.ldc 154, 2) := by decide +kernel
theorem dX4_settles_54 : decode cX4_settles 54 = .ok (.invokevirtual 58, 3) := by decide +kernel
theorem dX4_settles_57 : decode cX4_settles 57 = .ok (.ireturn, 1) := by decide +kernel
set_option maxHeartbeats 4000000 in
set_option maxRecDepth 100000 in
theorem g_X4_settles {E : fh_E} {M : fh_M} (C : fh_Cx E M cX4_settles 2 RX4 ((some FieldType.int)) rm_X4_settles) (Hr : fh_Rt E M) (k1 : Nat) (σ2 : fh_S) : fh_Go E M 2 fh_vI 0 [(0, .ref (fh_ad E k1))] [] σ2 (f_X4_settles k1 σ2) := by
  have hok := fh_cok C
  refine go_ob ?_
  refine go_aload_n C 0 rfl rfl dX4_settles_0 ?_
  refine go_gr (ci := 4) (j := 2) C fh_in4 rfl (by decide) rfl q_140 dX4_settles_1 (fun k3 => ?_)
  refine go_aload_n C 0 rfl rfl dX4_settles_4 ?_
  refine go_gr (ci := 4) (j := 0) C fh_in4 rfl (by decide) rfl q_138 dX4_settles_5 (fun k4 => ?_)
  refine go_callVU C (st := []) [.ref (fh_ad E k4)] (m_X0_become E _ hok k3 k4 σ2) (fun _ h => fh_ob_ok h) rfl rfl ⟨q_378, q_379, q_380, q_2, q_381⟩ pd_X0_become rfl ⟨⟨Nat.le_of_ble_eq_true rfl, Nat.le_of_ble_eq_true rfl⟩, rfl, rfl⟩ (Nat.le_of_ble_eq_true rfl) dX4_settles_8 (fun _ σ5 => ?_)
  refine go_iconst C (0 : Int32) dX4_settles_11 rfl ?_
  refine go_istore_n C [(1, .int ((0 : Int32))), (0, .ref (fh_ad E k1))] rfl rfl (by decide) dX4_settles_12 ?_
  refine go_lv [1, 0] (lv' := [(0, .ref (fh_ad E k1)), (1, .int ((0 : Int32)))]) rfl ?_
  refine go_fx (fun (r8 : Int32 → fh_S → Option (Int32 × fh_S)) => ∀ (x6 : Int32) (σ7 : fh_S), fh_Go E M 2 fh_vI 13 [(0, .ref (fh_ad E k1)), (1, .int x6)] [] σ7 (r8 x6 σ7)) ?_ ?_ fh_fu ((0 : Int32)) σ5
  · intro x6 σ7
    exact go_none
  · intro r8 hr8 x6 σ7
    refine go_iload_n C 1 rfl rfl dX4_settles_13 ?_
    refine go_bipush C (100 : Int32) dX4_settles_14 rfl ?_
    refine go_icmp_gt (tgt := 51) C dX4_settles_16 rfl (fun _ => ?_) (fun _ => ?_)
    · refine go_aload_n C 0 rfl rfl dX4_settles_51 ?_
      refine go_ldc C q_369 dX4_settles_52 ?_
      refine go_callVI C (st := []) [.int ((-1000004 : Int32))] (m_X4_tell E _ hok k1 ((-1000004 : Int32)) σ7) (fun _ h => fh_ob_ok h) rfl rfl ⟨q_176, q_178, qs_0, q_1, q_179⟩ pd_X4_tell rfl ⟨⟨Nat.le_of_ble_eq_true rfl, Nat.le_of_ble_eq_true rfl⟩, rfl, rfl⟩ (Nat.le_of_ble_eq_true rfl) dX4_settles_54 (fun r10 σ9 => ?_)
      exact go_iret C Hr rfl dX4_settles_57
    · refine go_aload_n C 0 rfl rfl dX4_settles_19 ?_
      refine go_gr (ci := 4) (j := 2) C fh_in4 rfl (by decide) rfl q_140 dX4_settles_20 (fun k11 => ?_)
      refine go_callVU C (st := []) [] (m_X0_markGoings E _ hok k11 σ7) (fun _ h => fh_ob_ok h) rfl rfl ⟨q_407, q_408, q_409, q_2, q_410⟩ pd_X0_markGoings rfl ⟨⟨Nat.le_of_ble_eq_true rfl, Nat.le_of_ble_eq_true rfl⟩, rfl, rfl⟩ (Nat.le_of_ble_eq_true rfl) dX4_settles_23 (fun _ σ12 => ?_)
      refine go_aload_n C 0 rfl rfl dX4_settles_26 ?_
      refine go_gr (ci := 4) (j := 2) C fh_in4 rfl (by decide) rfl q_140 dX4_settles_27 (fun k13 => ?_)
      refine go_callVU C (st := []) [] (m_X0_passTick E _ hok k13 σ12) (fun _ h => fh_ob_ok h) rfl rfl ⟨q_394, q_272, q_273, q_2, q_274⟩ pd_X0_passTick rfl ⟨⟨Nat.le_of_ble_eq_true rfl, Nat.le_of_ble_eq_true rfl⟩, rfl, rfl⟩ (Nat.le_of_ble_eq_true rfl) dX4_settles_30 (fun _ σ14 => ?_)
      refine go_aload_n C 0 rfl rfl dX4_settles_33 ?_
      refine go_gr (ci := 4) (j := 2) C fh_in4 rfl (by decide) rfl q_140 dX4_settles_34 (fun k15 => ?_)
      refine go_callVI C (st := []) [] (m_X0_goesAsMarked E _ hok k15 σ14) (fun _ h => fh_ob_ok h) rfl rfl ⟨q_411, q_412, q_413, q_2, q_414⟩ pd_X0_goesAsMarked rfl ⟨⟨Nat.le_of_ble_eq_true rfl, Nat.le_of_ble_eq_true rfl⟩, rfl, rfl⟩ (Nat.le_of_ble_eq_true rfl) dX4_settles_37 (fun r17 σ16 => ?_)
      refine go_if_eq (tgt := 45) C dX4_settles_40 rfl (fun _ => ?_) (fun _ => ?_)
      · refine go_iinc C (x6 + 1) 1 [(1, .int (x6 + 1)), (0, .ref (fh_ad E k1))] rfl rfl rfl (by decide) dX4_settles_45 ?_
        refine go_goto C 13 dX4_settles_48 rfl ?_
        refine go_lv [1, 0] (lv' := [(0, .ref (fh_ad E k1)), (1, .int (x6 + 1))]) rfl ?_
        exact hr8 (x6 + 1) σ16
      · refine go_iload_n C 1 rfl rfl dX4_settles_43 ?_
        exact go_iret C Hr rfl dX4_settles_44
theorem m_X4_settles (E : fh_E) (l : Launch) (hok : fh_ok E) (k1 : Nat) (σ2 : fh_S) : fh_Met E l yX4_settles cX4_settles 2 ((some FieldType.int)) rm_X4_settles fh_vI [.ref (fh_ad E k1)] σ2 (f_X4_settles k1 σ2) := fh_met hok (by decide +kernel) (Nat.le_of_ble_eq_true rfl) (fun M _ C Hr => g_X4_settles C Hr k1 σ2)
def f_X4_distanceAs_B27 (a4 : Int32) (k1 : Nat) (a2 : Int32) (r15 : Int32 → Int32 → fh_S → Option (Int32 × fh_S)) : Int32 → Int32 → fh_S → Option (Int32 × fh_S) := fun x12 x13 σ14 => if a4 ≤ x13 then some (x12, σ14) else (fh_gr 4 k1 2).bind fun k16 => fh_cb (f_X0_passTick k16 σ14) fun _ σ17 => (fh_gr 4 k1 2).bind fun k18 => (fh_gr 0 k18 3).bind fun k19 => (fh_ld σ17 k19 a2).bind fun v20 => fh_cb (f_J9_abs_0f7a4 v20 σ17) fun r22 σ21 => r15 (x12 + r22) (x13 + 1) σ21
def f_X4_distanceAs (k1 : Nat) (a2 : Int32) (a3 : Int32) (a4 : Int32) (σ5 : fh_S) : Option (Int32 × fh_S) := fh_ob 4 k1 ((fh_gr 4 k1 2).bind fun k6 => (fh_gr 4 k1 0).bind fun k7 => fh_cb (f_X0_become k6 k7 σ5) fun _ σ8 => (fh_gr 4 k1 2).bind fun k9 => (fh_gr 0 k9 0).bind fun k10 => (fh_st σ8 k10 a2 a3).bind fun σ11 => fh_fx (ρ := Int32 → Int32 → fh_S → Option (Int32 × fh_S)) (fun _ _ _ => none) (f_X4_distanceAs_B27 a4 k1 a2) fh_fu ((0 : Int32)) ((0 : Int32)) σ11)
abbrev rm_X4_distanceAs : Room := { frames := 4, cells := 0, slots := 0, locals := 89 }
theorem pd_X4_distanceAs : yX4_distanceAs.cls ≠ "java/lang/invoke/MethodHandle" ∧ yX4_distanceAs.cls ≠ "java/lang/invoke/VarHandle" ∧ (parseMethodDescriptor yX4_distanceAs.desc).map (fun d => d.parameters.length) = some 3 := by decide +kernel
theorem dX4_distanceAs_0 : decode cX4_distanceAs 0 = .ok (.aload_n 0, 1) := by decide +kernel
theorem dX4_distanceAs_1 : decode cX4_distanceAs 1 = .ok (.getfield 19, 3) := by decide +kernel
theorem dX4_distanceAs_4 : decode cX4_distanceAs 4 = .ok (.aload_n 0, 1) := by decide +kernel
theorem dX4_distanceAs_5 : decode cX4_distanceAs 5 = .ok (.getfield 12, 3) := by decide +kernel
theorem dX4_distanceAs_8 : decode cX4_distanceAs 8 = .ok (.invokevirtual 161, 3) := by decide +kernel
theorem dX4_distanceAs_11 : decode cX4_distanceAs 11 = .ok (.aload_n 0, 1) := by decide +kernel
theorem dX4_distanceAs_12 : decode cX4_distanceAs 12 = .ok (.getfield 19, 3) := by decide +kernel
theorem dX4_distanceAs_15 : decode cX4_distanceAs 15 = .ok (.getfield 197, 3) := by decide +kernel
theorem dX4_distanceAs_18 : decode cX4_distanceAs 18 = .ok (.iload_n 1, 1) := by decide +kernel
theorem dX4_distanceAs_19 : decode cX4_distanceAs 19 = .ok (.iload_n 2, 1) := by decide +kernel
theorem dX4_distanceAs_20 : decode cX4_distanceAs 20 = .ok (.iastore, 1) := by decide +kernel
theorem dX4_distanceAs_21 : decode cX4_distanceAs 21 = .ok (.iconst 0, 1) := by decide +kernel
theorem dX4_distanceAs_22 : decode cX4_distanceAs 22 = .ok (.istore 4, 2) := by decide +kernel
theorem dX4_distanceAs_24 : decode cX4_distanceAs 24 = .ok (.iconst 0, 1) := by decide +kernel
theorem dX4_distanceAs_25 : decode cX4_distanceAs 25 = .ok (.istore 5, 2) := by decide +kernel
theorem dX4_distanceAs_27 : decode cX4_distanceAs 27 = .ok (.iload 5, 2) := by decide +kernel
theorem dX4_distanceAs_29 : decode cX4_distanceAs 29 = .ok (.iload_n 3, 1) := by decide +kernel
theorem dX4_distanceAs_30 : decode cX4_distanceAs 30 = .ok (.if_icmp .ge 33, 3) := by decide +kernel
theorem dX4_distanceAs_33 : decode cX4_distanceAs 33 = .ok (.aload_n 0, 1) := by decide +kernel
theorem dX4_distanceAs_34 : decode cX4_distanceAs 34 = .ok (.getfield 19, 3) := by decide +kernel
theorem dX4_distanceAs_37 : decode cX4_distanceAs 37 = .ok (.invokevirtual 165, 3) := by decide +kernel
theorem dX4_distanceAs_40 : decode cX4_distanceAs 40 = .ok (.iload 4, 2) := by decide +kernel
theorem dX4_distanceAs_42 : decode cX4_distanceAs 42 = .ok (.aload_n 0, 1) := by decide +kernel
theorem dX4_distanceAs_43 : decode cX4_distanceAs 43 = .ok (.getfield 19, 3) := by decide +kernel
theorem dX4_distanceAs_46 : decode cX4_distanceAs 46 = .ok (.getfield 121, 3) := by decide +kernel
theorem dX4_distanceAs_49 : decode cX4_distanceAs 49 = .ok (.iload_n 1, 1) := by decide +kernel
theorem dX4_distanceAs_50 : decode cX4_distanceAs 50 = .ok (.iaload, 1) := by decide +kernel
theorem dX4_distanceAs_51 : decode cX4_distanceAs 51 = .ok (.invokestatic 269, 3) := by decide +kernel
theorem dX4_distanceAs_54 : decode cX4_distanceAs 54 = .ok (.iadd, 1) := by decide +kernel
theorem dX4_distanceAs_55 : decode cX4_distanceAs 55 = .ok (.istore 4, 2) := by decide +kernel
theorem dX4_distanceAs_57 : decode cX4_distanceAs 57 = .ok (.iinc 5 1, 3) := by decide +kernel
theorem dX4_distanceAs_60 : decode cX4_distanceAs 60 = .ok (.goto (-33), 3) := by decide +kernel
theorem dX4_distanceAs_63 : decode cX4_distanceAs 63 = .ok (.iload 4, 2) := by decide +kernel
theorem dX4_distanceAs_65 : decode cX4_distanceAs 65 = .ok (.ireturn, 1) := by decide +kernel
set_option maxHeartbeats 4000000 in
set_option maxRecDepth 100000 in
theorem g_X4_distanceAs {E : fh_E} {M : fh_M} (C : fh_Cx E M cX4_distanceAs 6 RX4 ((some FieldType.int)) rm_X4_distanceAs) (Hr : fh_Rt E M) (k1 : Nat) (a2 : Int32) (a3 : Int32) (a4 : Int32) (σ5 : fh_S) : fh_Go E M 6 fh_vI 0 [(0, .ref (fh_ad E k1)), (1, .int a2), (2, .int a3), (3, .int a4)] [] σ5 (f_X4_distanceAs k1 a2 a3 a4 σ5) := by
  have hok := fh_cok C
  refine go_ob ?_
  refine go_aload_n C 0 rfl rfl dX4_distanceAs_0 ?_
  refine go_gr (ci := 4) (j := 2) C fh_in4 rfl (by decide) rfl q_140 dX4_distanceAs_1 (fun k6 => ?_)
  refine go_aload_n C 0 rfl rfl dX4_distanceAs_4 ?_
  refine go_gr (ci := 4) (j := 0) C fh_in4 rfl (by decide) rfl q_138 dX4_distanceAs_5 (fun k7 => ?_)
  refine go_callVU C (st := []) [.ref (fh_ad E k7)] (m_X0_become E _ hok k6 k7 σ5) (fun _ h => fh_ob_ok h) rfl rfl ⟨q_378, q_379, q_380, q_2, q_381⟩ pd_X0_become rfl ⟨⟨Nat.le_of_ble_eq_true rfl, Nat.le_of_ble_eq_true rfl⟩, rfl, rfl⟩ (Nat.le_of_ble_eq_true rfl) dX4_distanceAs_8 (fun _ σ8 => ?_)
  refine go_aload_n C 0 rfl rfl dX4_distanceAs_11 ?_
  refine go_gr (ci := 4) (j := 2) C fh_in4 rfl (by decide) rfl q_140 dX4_distanceAs_12 (fun k9 => ?_)
  refine go_gr (ci := 0) (j := 0) C fh_in0 rfl (by decide) rfl q_29 dX4_distanceAs_15 (fun k10 => ?_)
  refine go_iload_n C 1 rfl rfl dX4_distanceAs_18 ?_
  refine go_iload_n C 2 rfl rfl dX4_distanceAs_19 ?_
  refine go_iast C dX4_distanceAs_20 (fun σ11 => ?_)
  refine go_iconst C (0 : Int32) dX4_distanceAs_21 rfl ?_
  refine go_istore C [(4, .int ((0 : Int32))), (0, .ref (fh_ad E k1)), (1, .int a2), (2, .int a3), (3, .int a4)] rfl (by decide) dX4_distanceAs_22 ?_
  refine go_iconst C (0 : Int32) dX4_distanceAs_24 rfl ?_
  refine go_istore C [(5, .int ((0 : Int32))), (4, .int ((0 : Int32))), (0, .ref (fh_ad E k1)), (1, .int a2), (2, .int a3), (3, .int a4)] rfl (by decide) dX4_distanceAs_25 ?_
  refine go_lv [2, 3, 5, 1, 0] (lv' := [(0, .ref (fh_ad E k1)), (1, .int a2), (3, .int a4), (4, .int ((0 : Int32))), (5, .int ((0 : Int32)))]) rfl ?_
  refine go_fx (fun (r15 : Int32 → Int32 → fh_S → Option (Int32 × fh_S)) => ∀ (x12 : Int32) (x13 : Int32) (σ14 : fh_S), fh_Go E M 6 fh_vI 27 [(0, .ref (fh_ad E k1)), (1, .int a2), (3, .int a4), (4, .int x12), (5, .int x13)] [] σ14 (r15 x12 x13 σ14)) ?_ ?_ fh_fu ((0 : Int32)) ((0 : Int32)) σ11
  · intro x12 x13 σ14
    exact go_none
  · intro r15 hr15 x12 x13 σ14
    refine go_iload C 4 rfl dX4_distanceAs_27 ?_
    refine go_iload_n C 2 rfl rfl dX4_distanceAs_29 ?_
    refine go_icmp_ge (tgt := 63) C dX4_distanceAs_30 rfl (fun _ => ?_) (fun _ => ?_)
    · refine go_iload C 3 rfl dX4_distanceAs_63 ?_
      exact go_iret C Hr rfl dX4_distanceAs_65
    · refine go_aload_n C 0 rfl rfl dX4_distanceAs_33 ?_
      refine go_gr (ci := 4) (j := 2) C fh_in4 rfl (by decide) rfl q_140 dX4_distanceAs_34 (fun k16 => ?_)
      refine go_callVU C (st := []) [] (m_X0_passTick E _ hok k16 σ14) (fun _ h => fh_ob_ok h) rfl rfl ⟨q_394, q_272, q_273, q_2, q_274⟩ pd_X0_passTick rfl ⟨⟨Nat.le_of_ble_eq_true rfl, Nat.le_of_ble_eq_true rfl⟩, rfl, rfl⟩ (Nat.le_of_ble_eq_true rfl) dX4_distanceAs_37 (fun _ σ17 => ?_)
      refine go_iload C 3 rfl dX4_distanceAs_40 ?_
      refine go_aload_n C 0 rfl rfl dX4_distanceAs_42 ?_
      refine go_gr (ci := 4) (j := 2) C fh_in4 rfl (by decide) rfl q_140 dX4_distanceAs_43 (fun k18 => ?_)
      refine go_gr (ci := 0) (j := 3) C fh_in0 rfl (by decide) rfl q_38 dX4_distanceAs_46 (fun k19 => ?_)
      refine go_iload_n C 1 rfl rfl dX4_distanceAs_49 ?_
      refine go_iald C dX4_distanceAs_50 (fun v20 => ?_)
      refine go_callSI C (st := [.int x12]) [.int v20] (m_J9_abs_0f7a4 E _ hok v20 σ17) rfl ⟨q_423, q_212, q_7, q_213⟩ pd_J9_abs_0f7a4 rfl ⟨⟨Nat.le_of_ble_eq_true rfl, Nat.le_of_ble_eq_true rfl⟩, rfl, rfl⟩ (Nat.le_of_ble_eq_true rfl) dX4_distanceAs_51 (fun r22 σ21 => ?_)
      refine go_iadd C dX4_distanceAs_54 ?_
      refine go_istore C [(4, .int (x12 + r22)), (0, .ref (fh_ad E k1)), (1, .int a2), (3, .int a4), (5, .int x13)] rfl (by decide) dX4_distanceAs_55 ?_
      refine go_iinc C (x13 + 1) 4 [(5, .int (x13 + 1)), (4, .int (x12 + r22)), (0, .ref (fh_ad E k1)), (1, .int a2), (3, .int a4)] rfl rfl rfl (by decide) dX4_distanceAs_57 ?_
      refine go_goto C 27 dX4_distanceAs_60 rfl ?_
      refine go_lv [2, 3, 4, 1, 0] (lv' := [(0, .ref (fh_ad E k1)), (1, .int a2), (3, .int a4), (4, .int (x12 + r22)), (5, .int (x13 + 1))]) rfl ?_
      exact hr15 (x12 + r22) (x13 + 1) σ21
theorem m_X4_distanceAs (E : fh_E) (l : Launch) (hok : fh_ok E) (k1 : Nat) (a2 : Int32) (a3 : Int32) (a4 : Int32) (σ5 : fh_S) : fh_Met E l yX4_distanceAs cX4_distanceAs 6 ((some FieldType.int)) rm_X4_distanceAs fh_vI [.ref (fh_ad E k1), .int a2, .int a3, .int a4] σ5 (f_X4_distanceAs k1 a2 a3 a4 σ5) := fh_met hok (by decide +kernel) (Nat.le_of_ble_eq_true rfl) (fun M _ C Hr => g_X4_distanceAs C Hr k1 a2 a3 a4 σ5)
def f_X4_kindFor_J21 (k1 : Nat) : fh_S → Option (Int32 × fh_S) := fun σ8 => fh_cb (f_X4_tell k1 ((-1000001 : Int32)) σ8) fun r10 σ9 => some (r10, σ9)
def f_X4_kindFor_J69 (r18 : Int32 → Int32 → Int32 → fh_S → Option (Int32 × fh_S)) (x16 : Int32) : Int32 → Int32 → fh_S → Option (Int32 × fh_S) := fun x21 x22 σ23 => r18 x21 x22 (x16 + 1) σ23
def f_X4_kindFor_B36 (k1 : Nat) (a2 : Int32) (a3 : Int32) (r18 : Int32 → Int32 → Int32 → fh_S → Option (Int32 × fh_S)) : Int32 → Int32 → Int32 → fh_S → Option (Int32 × fh_S) := fun x14 x15 x16 σ17 => if ((7 : Int32)) ≤ x16 then some (x14, σ17) else fh_cb (f_X4_distanceAs k1 a2 x16 a3 σ17) fun r20 σ19 => fh_jn (f_X4_kindFor_J69 r18 x16) (fun j24 => if r20 ≤ x15 then j24 x14 x15 σ19 else j24 x16 r20 σ19)
def f_X4_kindFor (k1 : Nat) (a2 : Int32) (a3 : Int32) (σ4 : fh_S) : Option (Int32 × fh_S) := fh_ob 4 k1 ((fh_gr 4 k1 0).bind fun k5 => fh_cb (f_X0_has k5 a2 σ4) fun r7 σ6 => fh_jn (f_X4_kindFor_J21 k1) (fun j11 => if r7 = 0 then j11 σ6 else fh_cb (f_X4_isWithin a3 ((1 : Int32)) ((100 : Int32)) σ6) fun r13 σ12 => if r13 = 0 then j11 σ12 else fh_fx (ρ := Int32 → Int32 → Int32 → fh_S → Option (Int32 × fh_S)) (fun _ _ _ _ => none) (f_X4_kindFor_B36 k1 a2 a3) fh_fu ((0 : Int32)) ((-1 : Int32)) ((0 : Int32)) σ12))
abbrev rm_X4_kindFor : Room := { frames := 5, cells := 0, slots := 0, locals := 114 }
theorem pd_X4_kindFor : yX4_kindFor.cls ≠ "java/lang/invoke/MethodHandle" ∧ yX4_kindFor.cls ≠ "java/lang/invoke/VarHandle" ∧ (parseMethodDescriptor yX4_kindFor.desc).map (fun d => d.parameters.length) = some 2 := by decide +kernel
theorem dX4_kindFor_0 : decode cX4_kindFor 0 = .ok (.aload_n 0, 1) := by decide +kernel
theorem dX4_kindFor_1 : decode cX4_kindFor 1 = .ok (.getfield 12, 3) := by decide +kernel
theorem dX4_kindFor_4 : decode cX4_kindFor 4 = .ok (.iload_n 1, 1) := by decide +kernel
theorem dX4_kindFor_5 : decode cX4_kindFor 5 = .ok (.invokevirtual 70, 3) := by decide +kernel
theorem dX4_kindFor_8 : decode cX4_kindFor 8 = .ok (.ifCond .eq 13, 3) := by decide +kernel
theorem dX4_kindFor_11 : decode cX4_kindFor 11 = .ok (.iload_n 2, 1) := by decide +kernel
theorem dX4_kindFor_12 : decode cX4_kindFor 12 = .ok (.iconst 1, 1) := by decide +kernel
theorem dX4_kindFor_13 : decode cX4_kindFor 13 = .ok (.bipush 100, 2) := by decide +kernel
theorem dX4_kindFor_15 : decode cX4_kindFor 15 = .ok (.invokestatic 84, 3) := by decide +kernel
theorem dX4_kindFor_18 : decode cX4_kindFor 18 = .ok (.ifCond .ne 10, 3) := by decide +kernel
theorem dX4_kindFor_21 : decode cX4_kindFor 21 = .ok (.aload_n 0, 1) := by decide +kernel
theorem dX4_kindFor_22 : decode cX4_kindFor 22 = .ok (.ldc 57, 2) := by decide +kernel
theorem dX4_kindFor_24 : decode cX4_kindFor 24 = .ok (.invokevirtual 58, 3) := by decide +kernel
theorem dX4_kindFor_27 : decode cX4_kindFor 27 = .ok (.ireturn, 1) := by decide +kernel
theorem dX4_kindFor_28 : decode cX4_kindFor 28 = .ok (.iconst 0, 1) := by decide +kernel
theorem dX4_kindFor_29 : decode cX4_kindFor 29 = .ok (.istore_n 3, 1) := by decide +kernel
theorem dX4_kindFor_30 : decode cX4_kindFor 30 = .ok (.iconst (-1), 1) := by decide +kernel
theorem dX4_kindFor_31 : decode cX4_kindFor 31 = .ok (.istore 4, 2) := by decide +kernel
theorem dX4_kindFor_33 : decode cX4_kindFor 33 = .ok (.iconst 0, 1) := by decide +kernel
theorem dX4_kindFor_34 : decode cX4_kindFor 34 = .ok (.istore 5, 2) := by decide +kernel
theorem dX4_kindFor_36 : decode cX4_kindFor 36 = .ok (.iload 5, 2) := by decide +kernel
theorem dX4_kindFor_38 : decode cX4_kindFor 38 = .ok (.getstatic 174, 3) := by decide +kernel
theorem dX4_kindFor_41 : decode cX4_kindFor 41 = .ok (.arraylength, 1) := by decide +kernel
theorem dX4_kindFor_42 : decode cX4_kindFor 42 = .ok (.if_icmp .ge 33, 3) := by decide +kernel
theorem dX4_kindFor_45 : decode cX4_kindFor 45 = .ok (.aload_n 0, 1) := by decide +kernel
theorem dX4_kindFor_46 : decode cX4_kindFor 46 = .ok (.iload_n 1, 1) := by decide +kernel
theorem dX4_kindFor_47 : decode cX4_kindFor 47 = .ok (.iload 5, 2) := by decide +kernel
theorem dX4_kindFor_49 : decode cX4_kindFor 49 = .ok (.iload_n 2, 1) := by decide +kernel
theorem dX4_kindFor_50 : decode cX4_kindFor 50 = .ok (.invokevirtual 177, 3) := by decide +kernel
theorem dX4_kindFor_53 : decode cX4_kindFor 53 = .ok (.istore 6, 2) := by decide +kernel
theorem dX4_kindFor_55 : decode cX4_kindFor 55 = .ok (.iload 6, 2) := by decide +kernel
theorem dX4_kindFor_57 : decode cX4_kindFor 57 = .ok (.iload 4, 2) := by decide +kernel
theorem dX4_kindFor_59 : decode cX4_kindFor 59 = .ok (.if_icmp .le 10, 3) := by decide +kernel
theorem dX4_kindFor_62 : decode cX4_kindFor 62 = .ok (.iload 6, 2) := by decide +kernel
theorem dX4_kindFor_64 : decode cX4_kindFor 64 = .ok (.istore 4, 2) := by decide +kernel
theorem dX4_kindFor_66 : decode cX4_kindFor 66 = .ok (.iload 5, 2) := by decide +kernel
theorem dX4_kindFor_68 : decode cX4_kindFor 68 = .ok (.istore_n 3, 1) := by decide +kernel
theorem dX4_kindFor_69 : decode cX4_kindFor 69 = .ok (.iinc 5 1, 3) := by decide +kernel
theorem dX4_kindFor_72 : decode cX4_kindFor 72 = .ok (.goto (-36), 3) := by decide +kernel
theorem dX4_kindFor_75 : decode cX4_kindFor 75 = .ok (.iload_n 3, 1) := by decide +kernel
theorem dX4_kindFor_76 : decode cX4_kindFor 76 = .ok (.ireturn, 1) := by decide +kernel
set_option maxHeartbeats 4000000 in
set_option maxRecDepth 100000 in
theorem g_X4_kindFor {E : fh_E} {M : fh_M} (C : fh_Cx E M cX4_kindFor 7 RX4 ((some FieldType.int)) rm_X4_kindFor) (Hr : fh_Rt E M) (k1 : Nat) (a2 : Int32) (a3 : Int32) (σ4 : fh_S) : fh_Go E M 7 fh_vI 0 [(0, .ref (fh_ad E k1)), (1, .int a2), (2, .int a3)] [] σ4 (f_X4_kindFor k1 a2 a3 σ4) := by
  have hok := fh_cok C
  refine go_ob ?_
  refine go_aload_n C 0 rfl rfl dX4_kindFor_0 ?_
  refine go_gr (ci := 4) (j := 0) C fh_in4 rfl (by decide) rfl q_138 dX4_kindFor_1 (fun k5 => ?_)
  refine go_iload_n C 1 rfl rfl dX4_kindFor_4 ?_
  refine go_callVI C (st := []) [.int a2] (m_X0_has E _ hok k5 a2 σ4) (fun _ h => fh_ob_ok h) rfl rfl ⟨q_196, q_197, q_198, q_2, q_199⟩ pd_X0_has rfl ⟨⟨Nat.le_of_ble_eq_true rfl, Nat.le_of_ble_eq_true rfl⟩, rfl, rfl⟩ (Nat.le_of_ble_eq_true rfl) dX4_kindFor_5 (fun r7 σ6 => ?_)
  refine go_jn (fun (j11 : fh_S → Option (Int32 × fh_S)) => ∀ (σ8 : fh_S), fh_Go E M 7 fh_vI 21 [(0, .ref (fh_ad E k1))] [] σ8 (j11 σ8)) ?_ (fun j11 hj11 => ?_)
  · intro σ8
    refine go_aload_n C 0 rfl rfl dX4_kindFor_21 ?_
    refine go_ldc C q_175 dX4_kindFor_22 ?_
    refine go_callVI C (st := []) [.int ((-1000001 : Int32))] (m_X4_tell E _ hok k1 ((-1000001 : Int32)) σ8) (fun _ h => fh_ob_ok h) rfl rfl ⟨q_176, q_178, qs_0, q_1, q_179⟩ pd_X4_tell rfl ⟨⟨Nat.le_of_ble_eq_true rfl, Nat.le_of_ble_eq_true rfl⟩, rfl, rfl⟩ (Nat.le_of_ble_eq_true rfl) dX4_kindFor_24 (fun r10 σ9 => ?_)
    exact go_iret C Hr rfl dX4_kindFor_27
  refine go_if_eq (tgt := 21) C dX4_kindFor_8 rfl (fun _ => ?_) (fun _ => ?_)
  · refine go_lv [0] (lv' := [(0, .ref (fh_ad E k1))]) rfl ?_
    exact hj11 σ6
  · refine go_iload_n C 2 rfl rfl dX4_kindFor_11 ?_
    refine go_iconst C (1 : Int32) dX4_kindFor_12 rfl ?_
    refine go_bipush C (100 : Int32) dX4_kindFor_13 rfl ?_
    refine go_callSI C (st := []) [.int a3, .int ((1 : Int32)), .int ((100 : Int32))] (m_X4_isWithin E _ hok a3 ((1 : Int32)) ((100 : Int32)) σ6) rfl ⟨q_172, q_173, q_1, q_174⟩ pd_X4_isWithin rfl ⟨⟨Nat.le_of_ble_eq_true rfl, Nat.le_of_ble_eq_true rfl⟩, rfl, rfl⟩ (Nat.le_of_ble_eq_true rfl) dX4_kindFor_15 (fun r13 σ12 => ?_)
    refine go_if_ne (tgt := 28) C dX4_kindFor_18 rfl (fun _ => ?_) (fun _ => ?_)
    · refine go_iconst C (0 : Int32) dX4_kindFor_28 rfl ?_
      refine go_istore_n C [(3, .int ((0 : Int32))), (0, .ref (fh_ad E k1)), (1, .int a2), (2, .int a3)] rfl rfl (by decide) dX4_kindFor_29 ?_
      refine go_iconst C (-1 : Int32) dX4_kindFor_30 rfl ?_
      refine go_istore C [(4, .int ((-1 : Int32))), (3, .int ((0 : Int32))), (0, .ref (fh_ad E k1)), (1, .int a2), (2, .int a3)] rfl (by decide) dX4_kindFor_31 ?_
      refine go_iconst C (0 : Int32) dX4_kindFor_33 rfl ?_
      refine go_istore C [(5, .int ((0 : Int32))), (4, .int ((-1 : Int32))), (3, .int ((0 : Int32))), (0, .ref (fh_ad E k1)), (1, .int a2), (2, .int a3)] rfl (by decide) dX4_kindFor_34 ?_
      refine go_lv [3, 4, 5, 2, 1, 0] (lv' := [(0, .ref (fh_ad E k1)), (1, .int a2), (2, .int a3), (3, .int ((0 : Int32))), (4, .int ((-1 : Int32))), (5, .int ((0 : Int32)))]) rfl ?_
      refine go_fx (fun (r18 : Int32 → Int32 → Int32 → fh_S → Option (Int32 × fh_S)) => ∀ (x14 : Int32) (x15 : Int32) (x16 : Int32) (σ17 : fh_S), fh_Go E M 7 fh_vI 36 [(0, .ref (fh_ad E k1)), (1, .int a2), (2, .int a3), (3, .int x14), (4, .int x15), (5, .int x16)] [] σ17 (r18 x14 x15 x16 σ17)) ?_ ?_ fh_fu ((0 : Int32)) ((-1 : Int32)) ((0 : Int32)) σ12
      · intro x14 x15 x16 σ17
        exact go_none
      · intro r18 hr18 x14 x15 x16 σ17
        refine go_iload C 5 rfl dX4_kindFor_36 ?_
        refine go_tu C q_170 dX4_kindFor_38 ?_
        refine go_tl C dX4_kindFor_41 ?_
        refine go_icmp_ge (tgt := 75) C dX4_kindFor_42 rfl (fun _ => ?_) (fun _ => ?_)
        · refine go_iload_n C 3 rfl rfl dX4_kindFor_75 ?_
          exact go_iret C Hr rfl dX4_kindFor_76
        · refine go_aload_n C 0 rfl rfl dX4_kindFor_45 ?_
          refine go_iload_n C 1 rfl rfl dX4_kindFor_46 ?_
          refine go_iload C 5 rfl dX4_kindFor_47 ?_
          refine go_iload_n C 2 rfl rfl dX4_kindFor_49 ?_
          refine go_callVI C (st := []) [.int a2, .int x16, .int a3] (m_X4_distanceAs E _ hok k1 a2 x16 a3 σ17) (fun _ h => fh_ob_ok h) rfl rfl ⟨q_419, q_421, qs_4, q_1, q_422⟩ pd_X4_distanceAs rfl ⟨⟨Nat.le_of_ble_eq_true rfl, Nat.le_of_ble_eq_true rfl⟩, rfl, rfl⟩ (Nat.le_of_ble_eq_true rfl) dX4_kindFor_50 (fun r20 σ19 => ?_)
          refine go_istore C [(6, .int r20), (0, .ref (fh_ad E k1)), (1, .int a2), (2, .int a3), (3, .int x14), (4, .int x15), (5, .int x16)] rfl (by decide) dX4_kindFor_53 ?_
          refine go_iload C 0 rfl dX4_kindFor_55 ?_
          refine go_iload C 5 rfl dX4_kindFor_57 ?_
          refine go_jn (fun (j24 : Int32 → Int32 → fh_S → Option (Int32 × fh_S)) => ∀ (x21 : Int32) (x22 : Int32) (σ23 : fh_S), fh_Go E M 7 fh_vI 69 [(0, .ref (fh_ad E k1)), (1, .int a2), (2, .int a3), (3, .int x21), (4, .int x22), (5, .int x16)] [] σ23 (j24 x21 x22 σ23)) ?_ (fun j24 hj24 => ?_)
          · intro x21 x22 σ23
            refine go_iinc C (x16 + 1) 5 [(5, .int (x16 + 1)), (0, .ref (fh_ad E k1)), (1, .int a2), (2, .int a3), (3, .int x21), (4, .int x22)] rfl rfl rfl (by decide) dX4_kindFor_69 ?_
            refine go_goto C 36 dX4_kindFor_72 rfl ?_
            refine go_lv [1, 2, 3, 4, 5, 0] (lv' := [(0, .ref (fh_ad E k1)), (1, .int a2), (2, .int a3), (3, .int x21), (4, .int x22), (5, .int (x16 + 1))]) rfl ?_
            exact hr18 x21 x22 (x16 + 1) σ23
          refine go_icmp_le (tgt := 69) C dX4_kindFor_59 rfl (fun _ => ?_) (fun _ => ?_)
          · refine go_lv [1, 2, 3, 4, 5, 6] (lv' := [(0, .ref (fh_ad E k1)), (1, .int a2), (2, .int a3), (3, .int x14), (4, .int x15), (5, .int x16)]) rfl ?_
            exact hj24 x14 x15 σ19
          · refine go_iload C 0 rfl dX4_kindFor_62 ?_
            refine go_istore C [(4, .int r20), (6, .int r20), (0, .ref (fh_ad E k1)), (1, .int a2), (2, .int a3), (3, .int x14), (5, .int x16)] rfl (by decide) dX4_kindFor_64 ?_
            refine go_iload C 6 rfl dX4_kindFor_66 ?_
            refine go_istore_n C [(3, .int x16), (4, .int r20), (6, .int r20), (0, .ref (fh_ad E k1)), (1, .int a2), (2, .int a3), (5, .int x16)] rfl rfl (by decide) dX4_kindFor_68 ?_
            refine go_lv [3, 4, 5, 0, 1, 6] (lv' := [(0, .ref (fh_ad E k1)), (1, .int a2), (2, .int a3), (3, .int x16), (4, .int r20), (5, .int x16)]) rfl ?_
            exact hj24 x16 r20 σ19
    · refine go_lv [0] (lv' := [(0, .ref (fh_ad E k1))]) rfl ?_
      exact hj11 σ12
theorem m_X4_kindFor (E : fh_E) (l : Launch) (hok : fh_ok E) (k1 : Nat) (a2 : Int32) (a3 : Int32) (σ4 : fh_S) : fh_Met E l yX4_kindFor cX4_kindFor 7 ((some FieldType.int)) rm_X4_kindFor fh_vI [.ref (fh_ad E k1), .int a2, .int a3] σ4 (f_X4_kindFor k1 a2 a3 σ4) := fh_met hok (by decide +kernel) (Nat.le_of_ble_eq_true rfl) (fun M _ C Hr => g_X4_kindFor C Hr k1 a2 a3 σ4)
def f_X4_jogFor_J29 (k1 : Nat) : fh_S → Option (Int32 × fh_S) := fun σ9 => fh_cb (f_X4_tell k1 ((-1000001 : Int32)) σ9) fun r11 σ10 => some (r11, σ10)
def f_X4_jogFor (k1 : Nat) (a2 : Int32) (a3 : Int32) (a4 : Int32) (σ5 : fh_S) : Option (Int32 × fh_S) := fh_ob 4 k1 ((fh_gr 4 k1 0).bind fun k6 => fh_cb (f_X0_has k6 a2 σ5) fun r8 σ7 => fh_jn (f_X4_jogFor_J29 k1) (fun j12 => if r8 = 0 then j12 σ7 else fh_cb (f_X4_isHour a3 σ7) fun r14 σ13 => if r14 = 0 then j12 σ13 else fh_cb (f_X4_isWithin a4 ((0 : Int32)) ((200 : Int32)) σ13) fun r16 σ15 => if r16 = 0 then j12 σ15 else fh_cb (f_X4_tryTicks k1 a4 σ15) fun _ σ17 => (fh_gr 4 k1 2).bind fun k18 => (fh_gr 0 k18 1).bind fun k19 => (fh_ld σ17 k19 a2).bind fun v20 => fh_cb (f_X4_roundHour (a3 - v20) σ17) fun r22 σ21 => if ((360 : Int32)) < r22 then some (r22 - ((720 : Int32)), σ21) else some (r22, σ21)))
abbrev rm_X4_jogFor : Room := { frames := 6, cells := 0, slots := 0, locals := 132 }
theorem pd_X4_jogFor : yX4_jogFor.cls ≠ "java/lang/invoke/MethodHandle" ∧ yX4_jogFor.cls ≠ "java/lang/invoke/VarHandle" ∧ (parseMethodDescriptor yX4_jogFor.desc).map (fun d => d.parameters.length) = some 3 := by decide +kernel
theorem dX4_jogFor_0 : decode cX4_jogFor 0 = .ok (.aload_n 0, 1) := by decide +kernel
theorem dX4_jogFor_1 : decode cX4_jogFor 1 = .ok (.getfield 12, 3) := by decide +kernel
theorem dX4_jogFor_4 : decode cX4_jogFor 4 = .ok (.iload_n 1, 1) := by decide +kernel
theorem dX4_jogFor_5 : decode cX4_jogFor 5 = .ok (.invokevirtual 70, 3) := by decide +kernel
theorem dX4_jogFor_8 : decode cX4_jogFor 8 = .ok (.ifCond .eq 21, 3) := by decide +kernel
theorem dX4_jogFor_11 : decode cX4_jogFor 11 = .ok (.iload_n 2, 1) := by decide +kernel
theorem dX4_jogFor_12 : decode cX4_jogFor 12 = .ok (.invokestatic 158, 3) := by decide +kernel
theorem dX4_jogFor_15 : decode cX4_jogFor 15 = .ok (.ifCond .eq 14, 3) := by decide +kernel
theorem dX4_jogFor_18 : decode cX4_jogFor 18 = .ok (.iload_n 3, 1) := by decide +kernel
theorem dX4_jogFor_19 : decode cX4_jogFor 19 = .ok (.iconst 0, 1) := by decide +kernel
theorem dX4_jogFor_20 : decode cX4_jogFor 20 = .ok (.sipush 200, 3) := by decide +kernel
theorem dX4_jogFor_23 : decode cX4_jogFor 23 = .ok (.invokestatic 84, 3) := by decide +kernel
theorem dX4_jogFor_26 : decode cX4_jogFor 26 = .ok (.ifCond .ne 10, 3) := by decide +kernel
theorem dX4_jogFor_29 : decode cX4_jogFor 29 = .ok (.aload_n 0, 1) := by decide +kernel
theorem dX4_jogFor_30 : decode cX4_jogFor 30 = .ok (.ldc 57, 2) := by decide +kernel
theorem dX4_jogFor_32 : decode cX4_jogFor 32 = .ok (.invokevirtual 58, 3) := by decide +kernel
theorem dX4_jogFor_35 : decode cX4_jogFor 35 = .ok (.ireturn, 1) := by decide +kernel
theorem dX4_jogFor_36 : decode cX4_jogFor 36 = .ok (.aload_n 0, 1) := by decide +kernel
theorem dX4_jogFor_37 : decode cX4_jogFor 37 = .ok (.iload_n 3, 1) := by decide +kernel
theorem dX4_jogFor_38 : decode cX4_jogFor 38 = .ok (.invokevirtual 155, 3) := by decide +kernel
theorem dX4_jogFor_41 : decode cX4_jogFor 41 = .ok (.iload_n 2, 1) := by decide +kernel
theorem dX4_jogFor_42 : decode cX4_jogFor 42 = .ok (.aload_n 0, 1) := by decide +kernel
theorem dX4_jogFor_43 : decode cX4_jogFor 43 = .ok (.getfield 19, 3) := by decide +kernel
theorem dX4_jogFor_46 : decode cX4_jogFor 46 = .ok (.getfield 92, 3) := by decide +kernel
theorem dX4_jogFor_49 : decode cX4_jogFor 49 = .ok (.iload_n 1, 1) := by decide +kernel
theorem dX4_jogFor_50 : decode cX4_jogFor 50 = .ok (.iaload, 1) := by decide +kernel
theorem dX4_jogFor_51 : decode cX4_jogFor 51 = .ok (.isub, 1) := by decide +kernel
theorem dX4_jogFor_52 : decode cX4_jogFor 52 = .ok (.invokestatic 181, 3) := by decide +kernel
theorem dX4_jogFor_55 : decode cX4_jogFor 55 = .ok (.istore 4, 2) := by decide +kernel
theorem dX4_jogFor_57 : decode cX4_jogFor 57 = .ok (.iload 4, 2) := by decide +kernel
theorem dX4_jogFor_59 : decode cX4_jogFor 59 = .ok (.sipush 360, 3) := by decide +kernel
theorem dX4_jogFor_62 : decode cX4_jogFor 62 = .ok (.if_icmp .gt 8, 3) := by decide +kernel
theorem dX4_jogFor_65 : decode cX4_jogFor 65 = .ok (.iload 4, 2) := by decide +kernel
theorem dX4_jogFor_67 : decode cX4_jogFor 67 = .ok (.goto 9, 3) := by decide +kernel
theorem dX4_jogFor_70 : decode cX4_jogFor 70 = .ok (.iload 4, 2) := by decide +kernel
theorem dX4_jogFor_72 : decode cX4_jogFor 72 = .ok (.sipush 720, 3) := by decide +kernel
theorem dX4_jogFor_75 : decode cX4_jogFor 75 = .ok (.isub, 1) := by decide +kernel
theorem dX4_jogFor_76 : decode cX4_jogFor 76 = .ok (.ireturn, 1) := by decide +kernel
set_option maxHeartbeats 4000000 in
set_option maxRecDepth 100000 in
theorem g_X4_jogFor {E : fh_E} {M : fh_M} (C : fh_Cx E M cX4_jogFor 5 RX4 ((some FieldType.int)) rm_X4_jogFor) (Hr : fh_Rt E M) (k1 : Nat) (a2 : Int32) (a3 : Int32) (a4 : Int32) (σ5 : fh_S) : fh_Go E M 5 fh_vI 0 [(0, .ref (fh_ad E k1)), (1, .int a2), (2, .int a3), (3, .int a4)] [] σ5 (f_X4_jogFor k1 a2 a3 a4 σ5) := by
  have hok := fh_cok C
  refine go_ob ?_
  refine go_aload_n C 0 rfl rfl dX4_jogFor_0 ?_
  refine go_gr (ci := 4) (j := 0) C fh_in4 rfl (by decide) rfl q_138 dX4_jogFor_1 (fun k6 => ?_)
  refine go_iload_n C 1 rfl rfl dX4_jogFor_4 ?_
  refine go_callVI C (st := []) [.int a2] (m_X0_has E _ hok k6 a2 σ5) (fun _ h => fh_ob_ok h) rfl rfl ⟨q_196, q_197, q_198, q_2, q_199⟩ pd_X0_has rfl ⟨⟨Nat.le_of_ble_eq_true rfl, Nat.le_of_ble_eq_true rfl⟩, rfl, rfl⟩ (Nat.le_of_ble_eq_true rfl) dX4_jogFor_5 (fun r8 σ7 => ?_)
  refine go_jn (fun (j12 : fh_S → Option (Int32 × fh_S)) => ∀ (σ9 : fh_S), fh_Go E M 5 fh_vI 29 [(0, .ref (fh_ad E k1))] [] σ9 (j12 σ9)) ?_ (fun j12 hj12 => ?_)
  · intro σ9
    refine go_aload_n C 0 rfl rfl dX4_jogFor_29 ?_
    refine go_ldc C q_175 dX4_jogFor_30 ?_
    refine go_callVI C (st := []) [.int ((-1000001 : Int32))] (m_X4_tell E _ hok k1 ((-1000001 : Int32)) σ9) (fun _ h => fh_ob_ok h) rfl rfl ⟨q_176, q_178, qs_0, q_1, q_179⟩ pd_X4_tell rfl ⟨⟨Nat.le_of_ble_eq_true rfl, Nat.le_of_ble_eq_true rfl⟩, rfl, rfl⟩ (Nat.le_of_ble_eq_true rfl) dX4_jogFor_32 (fun r11 σ10 => ?_)
    exact go_iret C Hr rfl dX4_jogFor_35
  refine go_if_eq (tgt := 29) C dX4_jogFor_8 rfl (fun _ => ?_) (fun _ => ?_)
  · refine go_lv [0] (lv' := [(0, .ref (fh_ad E k1))]) rfl ?_
    exact hj12 σ7
  · refine go_iload_n C 2 rfl rfl dX4_jogFor_11 ?_
    refine go_callSI C (st := []) [.int a3] (m_X4_isHour E _ hok a3 σ7) rfl ⟨q_393, q_231, q_1, q_232⟩ pd_X4_isHour rfl ⟨⟨Nat.le_of_ble_eq_true rfl, Nat.le_of_ble_eq_true rfl⟩, rfl, rfl⟩ (Nat.le_of_ble_eq_true rfl) dX4_jogFor_12 (fun r14 σ13 => ?_)
    refine go_if_eq (tgt := 29) C dX4_jogFor_15 rfl (fun _ => ?_) (fun _ => ?_)
    · refine go_lv [0] (lv' := [(0, .ref (fh_ad E k1))]) rfl ?_
      exact hj12 σ13
    · refine go_iload_n C 3 rfl rfl dX4_jogFor_18 ?_
      refine go_iconst C (0 : Int32) dX4_jogFor_19 rfl ?_
      refine go_sipush C (200 : Int32) dX4_jogFor_20 rfl ?_
      refine go_callSI C (st := []) [.int a4, .int ((0 : Int32)), .int ((200 : Int32))] (m_X4_isWithin E _ hok a4 ((0 : Int32)) ((200 : Int32)) σ13) rfl ⟨q_172, q_173, q_1, q_174⟩ pd_X4_isWithin rfl ⟨⟨Nat.le_of_ble_eq_true rfl, Nat.le_of_ble_eq_true rfl⟩, rfl, rfl⟩ (Nat.le_of_ble_eq_true rfl) dX4_jogFor_23 (fun r16 σ15 => ?_)
      refine go_if_ne (tgt := 36) C dX4_jogFor_26 rfl (fun _ => ?_) (fun _ => ?_)
      · refine go_aload_n C 0 rfl rfl dX4_jogFor_36 ?_
        refine go_iload_n C 3 rfl rfl dX4_jogFor_37 ?_
        refine go_callVU C (st := []) [.int a4] (m_X4_tryTicks E _ hok k1 a4 σ15) (fun _ h => fh_ob_ok h) rfl rfl ⟨q_374, q_376, qs_3, q_1, q_377⟩ pd_X4_tryTicks rfl ⟨⟨Nat.le_of_ble_eq_true rfl, Nat.le_of_ble_eq_true rfl⟩, rfl, rfl⟩ (Nat.le_of_ble_eq_true rfl) dX4_jogFor_38 (fun _ σ17 => ?_)
        refine go_iload_n C 2 rfl rfl dX4_jogFor_41 ?_
        refine go_aload_n C 0 rfl rfl dX4_jogFor_42 ?_
        refine go_gr (ci := 4) (j := 2) C fh_in4 rfl (by decide) rfl q_140 dX4_jogFor_43 (fun k18 => ?_)
        refine go_gr (ci := 0) (j := 1) C fh_in0 rfl (by decide) rfl q_32 dX4_jogFor_46 (fun k19 => ?_)
        refine go_iload_n C 1 rfl rfl dX4_jogFor_49 ?_
        refine go_iald C dX4_jogFor_50 (fun v20 => ?_)
        refine go_isub C dX4_jogFor_51 ?_
        refine go_callSI C (st := []) [.int (a3 - v20)] (m_X4_roundHour E _ hok (a3 - v20) σ17) rfl ⟨q_428, q_244, q_1, q_245⟩ pd_X4_roundHour rfl ⟨⟨Nat.le_of_ble_eq_true rfl, Nat.le_of_ble_eq_true rfl⟩, rfl, rfl⟩ (Nat.le_of_ble_eq_true rfl) dX4_jogFor_52 (fun r22 σ21 => ?_)
        refine go_istore C [(4, .int r22), (0, .ref (fh_ad E k1)), (1, .int a2), (2, .int a3), (3, .int a4)] rfl (by decide) dX4_jogFor_55 ?_
        refine go_iload C 0 rfl dX4_jogFor_57 ?_
        refine go_sipush C (360 : Int32) dX4_jogFor_59 rfl ?_
        refine go_icmp_gt (tgt := 70) C dX4_jogFor_62 rfl (fun _ => ?_) (fun _ => ?_)
        · refine go_iload C 0 rfl dX4_jogFor_70 ?_
          refine go_sipush C (720 : Int32) dX4_jogFor_72 rfl ?_
          refine go_isub C dX4_jogFor_75 ?_
          exact go_iret C Hr rfl dX4_jogFor_76
        · refine go_iload C 0 rfl dX4_jogFor_65 ?_
          refine go_goto C 76 dX4_jogFor_67 rfl ?_
          exact go_iret C Hr rfl dX4_jogFor_76
      · refine go_lv [0] (lv' := [(0, .ref (fh_ad E k1))]) rfl ?_
        exact hj12 σ15
theorem m_X4_jogFor (E : fh_E) (l : Launch) (hok : fh_ok E) (k1 : Nat) (a2 : Int32) (a3 : Int32) (a4 : Int32) (σ5 : fh_S) : fh_Met E l yX4_jogFor cX4_jogFor 5 ((some FieldType.int)) rm_X4_jogFor fh_vI [.ref (fh_ad E k1), .int a2, .int a3, .int a4] σ5 (f_X4_jogFor k1 a2 a3 a4 σ5) := fh_met hok (by decide +kernel) (Nat.le_of_ble_eq_true rfl) (fun M _ C Hr => g_X4_jogFor C Hr k1 a2 a3 a4 σ5)
