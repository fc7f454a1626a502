def f_X0_waySet_B12 (k1 : Nat) (r10 : Int32 → Int32 → Int32 → fh_S → Option (Int32 × fh_S)) : Int32 → Int32 → Int32 → fh_S → Option (Int32 × fh_S) := fun x6 x7 x8 σ9 => (fh_gi σ9 0 k1 9).bind fun v11 => if v11 ≤ x8 then some (x6, σ9) else (fh_gr 0 k1 2).bind fun k12 => (fh_ld σ9 k12 x7).bind fun v13 => r10 (x6 ||| (((1 : Int32)) <<< (x7 &&& 31))) v13 (x8 + 1) σ9
def f_X0_waySet (k1 : Nat) (a2 : Int32) (σ3 : fh_S) : Option (Int32 × fh_S) := fh_ob 0 k1 ((fh_gr 0 k1 2).bind fun k4 => (fh_ld σ3 k4 a2).bind fun v5 => fh_fx (ρ := Int32 → Int32 → Int32 → fh_S → Option (Int32 × fh_S)) (fun _ _ _ _ => none) (f_X0_waySet_B12 k1) fh_fu ((0 : Int32)) v5 ((0 : Int32)) σ3)
abbrev rm_X0_waySet : Room := { frames := 0, cells := 0, slots := 0, locals := 0 }
theorem pd_X0_waySet : yX0_waySet.cls ≠ "java/lang/invoke/MethodHandle" ∧ yX0_waySet.cls ≠ "java/lang/invoke/VarHandle" ∧ (parseMethodDescriptor yX0_waySet.desc).map (fun d => d.parameters.length) = some 1 := by decide +kernel
theorem dX0_waySet_0 : decode cX0_waySet 0 = .ok (.iconst 0, 1) := by decide +kernel
theorem dX0_waySet_1 : decode cX0_waySet 1 = .ok (.istore_n 2, 1) := by decide +kernel
theorem dX0_waySet_2 : decode cX0_waySet 2 = .ok (.aload_n 0, 1) := by decide +kernel
theorem dX0_waySet_3 : decode cX0_waySet 3 = .ok (.getfield 18, 3) := by decide +kernel
theorem dX0_waySet_6 : decode cX0_waySet 6 = .ok (.iload_n 1, 1) := by decide +kernel
theorem dX0_waySet_7 : decode cX0_waySet 7 = .ok (.iaload, 1) := by decide +kernel
theorem dX0_waySet_8 : decode cX0_waySet 8 = .ok (.istore_n 3, 1) := by decide +kernel
theorem dX0_waySet_9 : decode cX0_waySet 9 = .ok (.iconst 0, 1) := by decide +kernel
theorem dX0_waySet_10 : decode cX0_waySet 10 = .ok (.istore 4, 2) := by decide +kernel
theorem dX0_waySet_12 : decode cX0_waySet 12 = .ok (.iload 4, 2) := by decide +kernel
theorem dX0_waySet_14 : decode cX0_waySet 14 = .ok (.aload_n 0, 1) := by decide +kernel
theorem dX0_waySet_15 : decode cX0_waySet 15 = .ok (.getfield 39, 3) := by decide +kernel
theorem dX0_waySet_18 : decode cX0_waySet 18 = .ok (.if_icmp .ge 22, 3) := by decide +kernel
theorem dX0_waySet_21 : decode cX0_waySet 21 = .ok (.iload_n 2, 1) := by decide +kernel
theorem dX0_waySet_22 : decode cX0_waySet 22 = .ok (.iconst 1, 1) := by decide +kernel
theorem dX0_waySet_23 : decode cX0_waySet 23 = .ok (.iload_n 3, 1) := by decide +kernel
theorem dX0_waySet_24 : decode cX0_waySet 24 = .ok (.ishl, 1) := by decide +kernel
theorem dX0_waySet_25 : decode cX0_waySet 25 = .ok (.ior, 1) := by decide +kernel
theorem dX0_waySet_26 : decode cX0_waySet 26 = .ok (.istore_n 2, 1) := by decide +kernel
theorem dX0_waySet_27 : decode cX0_waySet 27 = .ok (.aload_n 0, 1) := by decide +kernel
theorem dX0_waySet_28 : decode cX0_waySet 28 = .ok (.getfield 18, 3) := by decide +kernel
theorem dX0_waySet_31 : decode cX0_waySet 31 = .ok (.iload_n 3, 1) := by decide +kernel
theorem dX0_waySet_32 : decode cX0_waySet 32 = .ok (.iaload, 1) := by decide +kernel
theorem dX0_waySet_33 : decode cX0_waySet 33 = .ok (.istore_n 3, 1) := by decide +kernel
theorem dX0_waySet_34 : decode cX0_waySet 34 = .ok (.iinc 4 1, 3) := by decide +kernel
theorem dX0_waySet_37 : decode cX0_waySet 37 = .ok (.goto (-25), 3) := by decide +kernel
theorem dX0_waySet_40 : decode cX0_waySet 40 = .ok (.iload_n 2, 1) := by decide +kernel
theorem dX0_waySet_41 : decode cX0_waySet 41 = .ok (.ireturn, 1) := by decide +kernel
set_option maxHeartbeats 4000000 in
set_option maxRecDepth 100000 in
theorem g_X0_waySet {E : fh_E} {M : fh_M} (C : fh_Cx E M cX0_waySet 5 RX0 ((some FieldType.int)) rm_X0_waySet) (Hr : fh_Rt E M) (k1 : Nat) (a2 : Int32) (σ3 : fh_S) : fh_Go E M 5 fh_vI 0 [(0, .ref (fh_ad E k1)), (1, .int a2)] [] σ3 (f_X0_waySet k1 a2 σ3) := by
  have hok := fh_cok C
  refine go_ob ?_
  refine go_iconst C (0 : Int32) dX0_waySet_0 rfl ?_
  refine go_istore_n C [(2, .int ((0 : Int32))), (0, .ref (fh_ad E k1)), (1, .int a2)] rfl rfl (by decide) dX0_waySet_1 ?_
  refine go_aload_n C 1 rfl rfl dX0_waySet_2 ?_
  refine go_gr (ci := 0) (j := 2) C fh_in0 rfl (by decide) rfl q_33 dX0_waySet_3 (fun k4 => ?_)
  refine go_iload_n C 2 rfl rfl dX0_waySet_6 ?_
  refine go_iald C dX0_waySet_7 (fun v5 => ?_)
  refine go_istore_n C [(3, .int v5), (2, .int ((0 : Int32))), (0, .ref (fh_ad E k1)), (1, .int a2)] rfl rfl (by decide) dX0_waySet_8 ?_
  refine go_iconst C (0 : Int32) dX0_waySet_9 rfl ?_
  refine go_istore C [(4, .int ((0 : Int32))), (3, .int v5), (2, .int ((0 : Int32))), (0, .ref (fh_ad E k1)), (1, .int a2)] rfl (by decide) dX0_waySet_10 ?_
  refine go_lv [3, 2, 1, 0] (lv' := [(0, .ref (fh_ad E k1)), (2, .int ((0 : Int32))), (3, .int v5), (4, .int ((0 : Int32)))]) rfl ?_
  refine go_fx (fun (r10 : Int32 → Int32 → Int32 → fh_S → Option (Int32 × fh_S)) => ∀ (x6 : Int32) (x7 : Int32) (x8 : Int32) (σ9 : fh_S), fh_Go E M 5 fh_vI 12 [(0, .ref (fh_ad E k1)), (2, .int x6), (3, .int x7), (4, .int x8)] [] σ9 (r10 x6 x7 x8 σ9)) ?_ ?_ fh_fu ((0 : Int32)) v5 ((0 : Int32)) σ3
  · intro x6 x7 x8 σ9
    exact go_none
  · intro r10 hr10 x6 x7 x8 σ9
    refine go_iload C 3 rfl dX0_waySet_12 ?_
    refine go_aload_n C 0 rfl rfl dX0_waySet_14 ?_
    refine go_gi (ci := 0) (j := 9) C fh_in0 rfl (by decide) rfl q_46 dX0_waySet_15 (fun v11 => ?_)
    refine go_icmp_ge (tgt := 40) C dX0_waySet_18 rfl (fun _ => ?_) (fun _ => ?_)
    · refine go_iload_n C 1 rfl rfl dX0_waySet_40 ?_
      exact go_iret C Hr rfl dX0_waySet_41
    · refine go_iload_n C 1 rfl rfl dX0_waySet_21 ?_
      refine go_iconst C (1 : Int32) dX0_waySet_22 rfl ?_
      refine go_iload_n C 2 rfl rfl dX0_waySet_23 ?_
      refine go_ishl C dX0_waySet_24 ?_
      refine go_ior C dX0_waySet_25 ?_
      refine go_istore_n C [(2, .int (x6 ||| (((1 : Int32)) <<< (x7 &&& 31)))), (0, .ref (fh_ad E k1)), (3, .int x7), (4, .int x8)] rfl rfl (by decide) dX0_waySet_26 ?_
      refine go_aload_n C 1 rfl rfl dX0_waySet_27 ?_
      refine go_gr (ci := 0) (j := 2) C fh_in0 rfl (by decide) rfl q_33 dX0_waySet_28 (fun k12 => ?_)
      refine go_iload_n C 2 rfl rfl dX0_waySet_31 ?_
      refine go_iald C dX0_waySet_32 (fun v13 => ?_)
      refine go_istore_n C [(3, .int v13), (2, .int (x6 ||| (((1 : Int32)) <<< (x7 &&& 31)))), (0, .ref (fh_ad E k1)), (4, .int x8)] rfl rfl (by decide) dX0_waySet_33 ?_
      refine go_iinc C (x8 + 1) 3 [(4, .int (x8 + 1)), (3, .int v13), (2, .int (x6 ||| (((1 : Int32)) <<< (x7 &&& 31)))), (0, .ref (fh_ad E k1))] rfl rfl rfl (by decide) dX0_waySet_34 ?_
      refine go_goto C 12 dX0_waySet_37 rfl ?_
      refine go_lv [3, 2, 1, 0] (lv' := [(0, .ref (fh_ad E k1)), (2, .int (x6 ||| (((1 : Int32)) <<< (x7 &&& 31)))), (3, .int v13), (4, .int (x8 + 1))]) rfl ?_
      exact hr10 (x6 ||| (((1 : Int32)) <<< (x7 &&& 31))) v13 (x8 + 1) σ9
theorem m_X0_waySet (E : fh_E) (l : Launch) (hok : fh_ok E) (k1 : Nat) (a2 : Int32) (σ3 : fh_S) : fh_Met E l yX0_waySet cX0_waySet 5 ((some FieldType.int)) rm_X0_waySet fh_vI [.ref (fh_ad E k1), .int a2] σ3 (f_X0_waySet k1 a2 σ3) := fh_met hok (by decide +kernel) (Nat.le_of_ble_eq_true rfl) (fun M _ C Hr => g_X0_waySet C Hr k1 a2 σ3)
def f_X0_ringSet_B4 (k1 : Nat) (r7 : Int32 → Int32 → fh_S → Option (Int32 × fh_S)) : Int32 → Int32 → fh_S → Option (Int32 × fh_S) := fun x4 x5 σ6 => (fh_gi σ6 0 k1 9).bind fun v8 => if v8 ≤ x5 then fh_cb (f_X0_waySet k1 x4 σ6) fun r10 σ9 => some (r10, σ9) else (fh_gr 0 k1 2).bind fun k11 => (fh_ld σ6 k11 x4).bind fun v12 => r7 v12 (x5 + 1) σ6
def f_X0_ringSet (k1 : Nat) (a2 : Int32) (σ3 : fh_S) : Option (Int32 × fh_S) := fh_ob 0 k1 (fh_fx (ρ := Int32 → Int32 → fh_S → Option (Int32 × fh_S)) (fun _ _ _ => none) (f_X0_ringSet_B4 k1) fh_fu a2 ((0 : Int32)) σ3)
abbrev rm_X0_ringSet : Room := { frames := 1, cells := 0, slots := 0, locals := 24 }
theorem pd_X0_ringSet : yX0_ringSet.cls ≠ "java/lang/invoke/MethodHandle" ∧ yX0_ringSet.cls ≠ "java/lang/invoke/VarHandle" ∧ (parseMethodDescriptor yX0_ringSet.desc).map (fun d => d.parameters.length) = some 1 := by decide +kernel
theorem dX0_ringSet_0 : decode cX0_ringSet 0 = .ok (.iload_n 1, 1) := by decide +kernel
theorem dX0_ringSet_1 : decode cX0_ringSet 1 = .ok (.istore_n 2, 1) := by decide +kernel
theorem dX0_ringSet_2 : decode cX0_ringSet 2 = .ok (.iconst 0, 1) := by decide +kernel
theorem dX0_ringSet_3 : decode cX0_ringSet 3 = .ok (.istore_n 3, 1) := by decide +kernel
theorem dX0_ringSet_4 : decode cX0_ringSet 4 = .ok (.iload_n 3, 1) := by decide +kernel
theorem dX0_ringSet_5 : decode cX0_ringSet 5 = .ok (.aload_n 0, 1) := by decide +kernel
theorem dX0_ringSet_6 : decode cX0_ringSet 6 = .ok (.getfield 39, 3) := by decide +kernel
theorem dX0_ringSet_9 : decode cX0_ringSet 9 = .ok (.if_icmp .ge 16, 3) := by decide +kernel
theorem dX0_ringSet_12 : decode cX0_ringSet 12 = .ok (.aload_n 0, 1) := by decide +kernel
theorem dX0_ringSet_13 : decode cX0_ringSet 13 = .ok (.getfield 18, 3) := by decide +kernel
theorem dX0_ringSet_16 : decode cX0_ringSet 16 = .ok (.iload_n 2, 1) := by decide +kernel
theorem dX0_ringSet_17 : decode cX0_ringSet 17 = .ok (.iaload, 1) := by decide +kernel
theorem dX0_ringSet_18 : decode cX0_ringSet 18 = .ok (.istore_n 2, 1) := by decide +kernel
theorem dX0_ringSet_19 : decode cX0_ringSet 19 = .ok (.iinc 3 1, 3) := by decide +kernel
theorem dX0_ringSet_22 : decode cX0_ringSet 22 = .ok (.goto (-18), 3) := by decide +kernel
theorem dX0_ringSet_25 : decode cX0_ringSet 25 = .ok (.aload_n 0, 1) := by decide +kernel
theorem dX0_ringSet_26 : decode cX0_ringSet 26 = .ok (.iload_n 2, 1) := by decide +kernel
theorem dX0_ringSet_27 : decode cX0_ringSet 27 = .ok (.invokevirtual 119, 3) := by decide +kernel
theorem dX0_ringSet_30 : decode cX0_ringSet 30 = .ok (.ireturn, 1) := by decide +kernel
set_option maxHeartbeats 4000000 in
set_option maxRecDepth 100000 in
theorem g_X0_ringSet {E : fh_E} {M : fh_M} (C : fh_Cx E M cX0_ringSet 4 RX0 ((some FieldType.int)) rm_X0_ringSet) (Hr : fh_Rt E M) (k1 : Nat) (a2 : Int32) (σ3 : fh_S) : fh_Go E M 4 fh_vI 0 [(0, .ref (fh_ad E k1)), (1, .int a2)] [] σ3 (f_X0_ringSet k1 a2 σ3) := by
  have hok := fh_cok C
  refine go_ob ?_
  refine go_iload_n C 1 rfl rfl dX0_ringSet_0 ?_
  refine go_istore_n C [(2, .int a2), (0, .ref (fh_ad E k1)), (1, .int a2)] rfl rfl (by decide) dX0_ringSet_1 ?_
  refine go_iconst C (0 : Int32) dX0_ringSet_2 rfl ?_
  refine go_istore_n C [(3, .int ((0 : Int32))), (2, .int a2), (0, .ref (fh_ad E k1)), (1, .int a2)] rfl rfl (by decide) dX0_ringSet_3 ?_
  refine go_lv [2, 1, 0] (lv' := [(0, .ref (fh_ad E k1)), (2, .int a2), (3, .int ((0 : Int32)))]) rfl ?_
  refine go_fx (fun (r7 : Int32 → Int32 → fh_S → Option (Int32 × fh_S)) => ∀ (x4 : Int32) (x5 : Int32) (σ6 : fh_S), fh_Go E M 4 fh_vI 4 [(0, .ref (fh_ad E k1)), (2, .int x4), (3, .int x5)] [] σ6 (r7 x4 x5 σ6)) ?_ ?_ fh_fu a2 ((0 : Int32)) σ3
  · intro x4 x5 σ6
    exact go_none
  · intro r7 hr7 x4 x5 σ6
    refine go_iload_n C 2 rfl rfl dX0_ringSet_4 ?_
    refine go_aload_n C 0 rfl rfl dX0_ringSet_5 ?_
    refine go_gi (ci := 0) (j := 9) C fh_in0 rfl (by decide) rfl q_46 dX0_ringSet_6 (fun v8 => ?_)
    refine go_icmp_ge (tgt := 25) C dX0_ringSet_9 rfl (fun _ => ?_) (fun _ => ?_)
    · refine go_aload_n C 0 rfl rfl dX0_ringSet_25 ?_
      refine go_iload_n C 1 rfl rfl dX0_ringSet_26 ?_
      refine go_callVI C (st := []) [.int x4] (m_X0_waySet E _ hok k1 x4 σ6) (fun _ h => fh_ob_ok h) rfl rfl ⟨q_329, q_318, q_319, q_2, q_320⟩ pd_X0_waySet rfl ⟨⟨Nat.le_of_ble_eq_true rfl, Nat.le_of_ble_eq_true rfl⟩, rfl, rfl⟩ (Nat.le_of_ble_eq_true rfl) dX0_ringSet_27 (fun r10 σ9 => ?_)
      exact go_iret C Hr rfl dX0_ringSet_30
    · refine go_aload_n C 0 rfl rfl dX0_ringSet_12 ?_
      refine go_gr (ci := 0) (j := 2) C fh_in0 rfl (by decide) rfl q_33 dX0_ringSet_13 (fun k11 => ?_)
      refine go_iload_n C 1 rfl rfl dX0_ringSet_16 ?_
      refine go_iald C dX0_ringSet_17 (fun v12 => ?_)
      refine go_istore_n C [(2, .int v12), (0, .ref (fh_ad E k1)), (3, .int x5)] rfl rfl (by decide) dX0_ringSet_18 ?_
      refine go_iinc C (x5 + 1) 2 [(3, .int (x5 + 1)), (2, .int v12), (0, .ref (fh_ad E k1))] rfl rfl rfl (by decide) dX0_ringSet_19 ?_
      refine go_goto C 4 dX0_ringSet_22 rfl ?_
      refine go_lv [2, 1, 0] (lv' := [(0, .ref (fh_ad E k1)), (2, .int v12), (3, .int (x5 + 1))]) rfl ?_
      exact hr7 v12 (x5 + 1) σ6
theorem m_X0_ringSet (E : fh_E) (l : Launch) (hok : fh_ok E) (k1 : Nat) (a2 : Int32) (σ3 : fh_S) : fh_Met E l yX0_ringSet cX0_ringSet 4 ((some FieldType.int)) rm_X0_ringSet fh_vI [.ref (fh_ad E k1), .int a2] σ3 (f_X0_ringSet k1 a2 σ3) := fh_met hok (by decide +kernel) (Nat.le_of_ble_eq_true rfl) (fun M _ C Hr => g_X0_ringSet C Hr k1 a2 σ3)
def f_J6_numberOfTrailingZeros_0f7a4_J74 : Int32 → Int32 → fh_S → Option (Int32 × fh_S) := fun x12 x13 σ14 => some (x13 + ((x12.toUInt32 >>> (((1 : Int32)).toUInt32 &&& Int32.toUInt32 31)).toInt32), σ14)
def f_J6_numberOfTrailingZeros_0f7a4_J62 : Int32 → Int32 → fh_S → Option (Int32 × fh_S) := fun x9 x10 σ11 => fh_jn (f_J6_numberOfTrailingZeros_0f7a4_J74) (fun j15 => if x9 ≤ ((4 : Int32)) then j15 x9 x10 σ11 else j15 ((x9.toUInt32 >>> (((2 : Int32)).toUInt32 &&& Int32.toUInt32 31)).toInt32) (x10 + 2) σ11)
def f_J6_numberOfTrailingZeros_0f7a4_J49 : Int32 → Int32 → fh_S → Option (Int32 × fh_S) := fun x6 x7 σ8 => fh_jn (f_J6_numberOfTrailingZeros_0f7a4_J62) (fun j16 => if x6 ≤ ((16 : Int32)) then j16 x6 x7 σ8 else j16 ((x6.toUInt32 >>> (((4 : Int32)).toUInt32 &&& Int32.toUInt32 31)).toInt32) (x7 + 4) σ8)
def f_J6_numberOfTrailingZeros_0f7a4_J34 : Int32 → Int32 → fh_S → Option (Int32 × fh_S) := fun x3 x4 σ5 => fh_jn (f_J6_numberOfTrailingZeros_0f7a4_J49) (fun j17 => if x3 ≤ ((256 : Int32)) then j17 x3 x4 σ5 else j17 ((x3.toUInt32 >>> (((8 : Int32)).toUInt32 &&& Int32.toUInt32 31)).toInt32) (x4 + 8) σ5)
def f_J6_numberOfTrailingZeros_0f7a4 (a1 : Int32) (σ2 : fh_S) : Option (Int32 × fh_S) := if 0 < ((a1 ^^^ ((-1 : Int32))) &&& (a1 - ((1 : Int32)))) then fh_jn (f_J6_numberOfTrailingZeros_0f7a4_J34) (fun j18 => if ((a1 ^^^ ((-1 : Int32))) &&& (a1 - ((1 : Int32)))) ≤ ((65536 : Int32)) then j18 ((a1 ^^^ ((-1 : Int32))) &&& (a1 - ((1 : Int32)))) ((1 : Int32)) σ2 else j18 ((((a1 ^^^ ((-1 : Int32))) &&& (a1 - ((1 : Int32)))).toUInt32 >>> (((16 : Int32)).toUInt32 &&& Int32.toUInt32 31)).toInt32) (((1 : Int32)) + 16) σ2) else some (((a1 ^^^ ((-1 : Int32))) &&& (a1 - ((1 : Int32)))) &&& ((32 : Int32)), σ2)
abbrev rm_J6_numberOfTrailingZeros_0f7a4 : Room := { frames := 0, cells := 0, slots := 0, locals := 0 }
theorem pd_J6_numberOfTrailingZeros_0f7a4 : yJ6_numberOfTrailingZeros_0f7a4.cls ≠ "java/lang/invoke/MethodHandle" ∧ yJ6_numberOfTrailingZeros_0f7a4.cls ≠ "java/lang/invoke/VarHandle" ∧ (parseMethodDescriptor yJ6_numberOfTrailingZeros_0f7a4.desc).map (fun d => d.parameters.length) = some 1 := by decide +kernel
theorem dJ6_numberOfTrailingZeros_0f7a4_0 : decode cJ6_numberOfTrailingZeros_0f7a4 0 = .ok (.iload_n 0, 1) := by decide +kernel
theorem dJ6_numberOfTrailingZeros_0f7a4_1 : decode cJ6_numberOfTrailingZeros_0f7a4 1 = .ok (.iconst (-1), 1) := by decide +kernel
theorem dJ6_numberOfTrailingZeros_0f7a4_2 : decode cJ6_numberOfTrailingZeros_0f7a4 2 = .ok (.ixor, 1) := by decide +kernel
theorem dJ6_numberOfTrailingZeros_0f7a4_3 : decode cJ6_numberOfTrailingZeros_0f7a4 3 = .ok (.iload_n 0, 1) := by decide +kernel
theorem dJ6_numberOfTrailingZeros_0f7a4_4 : decode cJ6_numberOfTrailingZeros_0f7a4 4 = .ok (.iconst 1, 1) := by decide +kernel
theorem dJ6_numberOfTrailingZeros_0f7a4_5 : decode cJ6_numberOfTrailingZeros_0f7a4 5 = .ok (.isub, 1) := by decide +kernel
theorem dJ6_numberOfTrailingZeros_0f7a4_6 : decode cJ6_numberOfTrailingZeros_0f7a4 6 = .ok (.iand, 1) := by decide +kernel
theorem dJ6_numberOfTrailingZeros_0f7a4_7 : decode cJ6_numberOfTrailingZeros_0f7a4 7 = .ok (.istore_n 0, 1) := by decide +kernel
theorem dJ6_numberOfTrailingZeros_0f7a4_8 : decode cJ6_numberOfTrailingZeros_0f7a4 8 = .ok (.iload_n 0, 1) := by decide +kernel
theorem dJ6_numberOfTrailingZeros_0f7a4_9 : decode cJ6_numberOfTrailingZeros_0f7a4 9 = .ok (.ifCond .gt 8, 3) := by decide +kernel
theorem dJ6_numberOfTrailingZeros_0f7a4_12 : decode cJ6_numberOfTrailingZeros_0f7a4 12 = .ok (.iload_n 0, 1) := by decide +kernel
theorem dJ6_numberOfTrailingZeros_0f7a4_13 : decode cJ6_numberOfTrailingZeros_0f7a4 13 = .ok (.bipush 32, 2) := by decide +kernel
theorem dJ6_numberOfTrailingZeros_0f7a4_15 : decode cJ6_numberOfTrailingZeros_0f7a4 15 = .ok (.iand, 1) := by decide +kernel
theorem dJ6_numberOfTrailingZeros_0f7a4_16 : decode cJ6_numberOfTrailingZeros_0f7a4 16 = .ok (.ireturn, 1) := by decide +kernel
theorem dJ6_numberOfTrailingZeros_0f7a4_17 : decode cJ6_numberOfTrailingZeros_0f7a4 17 = .ok (.iconst 1, 1) := by decide +kernel
theorem dJ6_numberOfTrailingZeros_0f7a4_18 : decode cJ6_numberOfTrailingZeros_0f7a4 18 = .ok (.istore_n 1, 1) := by decide +kernel
theorem dJ6_numberOfTrailingZeros_0f7a4_19 : decode cJ6_numberOfTrailingZeros_0f7a4 19 = .ok (.iload_n 0, 1) := by decide +kernel
theorem dJ6_numberOfTrailingZeros_0f7a4_20 : decode cJ6_numberOfTrailingZeros_0f7a4 20 = .ok (.ldc_w 264, 3) := by decide +kernel
theorem dJ6_numberOfTrailingZeros_0f7a4_23 : decode cJ6_numberOfTrailingZeros_0f7a4 23 = .ok (.if_icmp .le 11, 3) := by decide +kernel
theorem dJ6_numberOfTrailingZeros_0f7a4_26 : decode cJ6_numberOfTrailingZeros_0f7a4 26 = .ok (.iinc 1 16, 3) := by decide +kernel
theorem dJ6_numberOfTrailingZeros_0f7a4_29 : decode cJ6_numberOfTrailingZeros_0f7a4 29 = .ok (.iload_n 0, 1) := by decide +kernel
theorem dJ6_numberOfTrailingZeros_0f7a4_30 : decode cJ6_numberOfTrailingZeros_0f7a4 30 = .ok (.bipush 16, 2) := by decide +kernel
theorem dJ6_numberOfTrailingZeros_0f7a4_32 : decode cJ6_numberOfTrailingZeros_0f7a4 32 = .ok (.iushr, 1) := by decide +kernel
theorem dJ6_numberOfTrailingZeros_0f7a4_33 : decode cJ6_numberOfTrailingZeros_0f7a4 33 = .ok (.istore_n 0, 1) := by decide +kernel
theorem dJ6_numberOfTrailingZeros_0f7a4_34 : decode cJ6_numberOfTrailingZeros_0f7a4 34 = .ok (.iload_n 0, 1) := by decide +kernel
theorem dJ6_numberOfTrailingZeros_0f7a4_35 : decode cJ6_numberOfTrailingZeros_0f7a4 35 = .ok (.sipush 256, 3) := by decide +kernel
theorem dJ6_numberOfTrailingZeros_0f7a4_38 : decode cJ6_numberOfTrailingZeros_0f7a4 38 = .ok (.if_icmp .le 11, 3) := by decide +kernel
theorem dJ6_numberOfTrailingZeros_0f7a4_41 : decode cJ6_numberOfTrailingZeros_0f7a4 41 = .ok (.iinc 1 8, 3) := by decide +kernel
theorem dJ6_numberOfTrailingZeros_0f7a4_44 : decode cJ6_numberOfTrailingZeros_0f7a4 44 = .ok (.iload_n 0, 1) := by decide +kernel
theorem dJ6_numberOfTrailingZeros_0f7a4_45 : decode cJ6_numberOfTrailingZeros_0f7a4 45 = .ok (.bipush 8, 2) := by decide +kernel
theorem dJ6_numberOfTrailingZeros_0f7a4_47 : decode cJ6_numberOfTrailingZeros_0f7a4 47 = .ok (.iushr, 1) := by decide +kernel
theorem dJ6_numberOfTrailingZeros_0f7a4_48 : decode cJ6_numberOfTrailingZeros_0f7a4 48 = .ok (.istore_n 0, 1) := by decide +kernel
theorem dJ6_numberOfTrailingZeros_0f7a4_49 : decode cJ6_numberOfTrailingZeros_0f7a4 49 = .ok (.iload_n 0, 1) := by decide +kernel
theorem dJ6_numberOfTrailingZeros_0f7a4_50 : decode cJ6_numberOfTrailingZeros_0f7a4 50 = .ok (.bipush 16, 2) := by decide +kernel
theorem dJ6_numberOfTrailingZeros_0f7a4_52 : decode cJ6_numberOfTrailingZeros_0f7a4 52 = .ok (.if_icmp .le 10, 3) := by decide +kernel
theorem dJ6_numberOfTrailingZeros_0f7a4_55 : decode cJ6_numberOfTrailingZeros_0f7a4 55 = .ok (.iinc 1 4, 3) := by decide +kernel
theorem dJ6_numberOfTrailingZeros_0f7a4_58 : decode cJ6_numberOfTrailingZeros_0f7a4 58 = .ok (.iload_n 0, 1) := by decide +kernel
theorem dJ6_numberOfTrailingZeros_0f7a4_59 : decode cJ6_numberOfTrailingZeros_0f7a4 59 = .ok (.iconst 4, 1) := by decide +kernel
theorem dJ6_numberOfTrailingZeros_0f7a4_60 : decode cJ6_numberOfTrailingZeros_0f7a4 60 = .ok (.iushr, 1) := by decide +kernel
theorem dJ6_numberOfTrailingZeros_0f7a4_61 : decode cJ6_numberOfTrailingZeros_0f7a4 61 = .ok (.istore_n 0, 1) := by decide +kernel
theorem dJ6_numberOfTrailingZeros_0f7a4_62 : decode cJ6_numberOfTrailingZeros_0f7a4 62 = .ok (.iload_n 0, 1) := by decide +kernel
theorem dJ6_numberOfTrailingZeros_0f7a4_63 : decode cJ6_numberOfTrailingZeros_0f7a4 63 = .ok (.iconst 4, 1) := by decide +kernel
theorem dJ6_numberOfTrailingZeros_0f7a4_64 : decode cJ6_numberOfTrailingZeros_0f7a4 64 = .ok (.if_icmp .le 10, 3) := by decide +kernel
theorem dJ6_numberOfTrailingZeros_0f7a4_67 : decode cJ6_numberOfTrailingZeros_0f7a4 67 = .ok (.iinc 1 2, 3) := by decide +kernel
theorem dJ6_numberOfTrailingZeros_0f7a4_70 : decode cJ6_numberOfTrailingZeros_0f7a4 70 = .ok (.iload_n 0, 1) := by decide +kernel
theorem dJ6_numberOfTrailingZeros_0f7a4_71 : decode cJ6_numberOfTrailingZeros_0f7a4 71 = .ok (.iconst 2, 1) := by decide +kernel
theorem dJ6_numberOfTrailingZeros_0f7a4_72 : decode cJ6_numberOfTrailingZeros_0f7a4 72 = .ok (.iushr, 1) := by decide +kernel
theorem dJ6_numberOfTrailingZeros_0f7a4_73 : decode cJ6_numberOfTrailingZeros_0f7a4 73 = .ok (.istore_n 0, 1) := by decide +kernel
theorem dJ6_numberOfTrailingZeros_0f7a4_74 : decode cJ6_numberOfTrailingZeros_0f7a4 74 = .ok (.iload_n 1, 1) := by decide +kernel
theorem dJ6_numberOfTrailingZeros_0f7a4_75 : decode cJ6_numberOfTrailingZeros_0f7a4 75 = .ok (.iload_n 0, 1) := by decide +kernel
theorem dJ6_numberOfTrailingZeros_0f7a4_76 : decode cJ6_numberOfTrailingZeros_0f7a4 76 = .ok (.iconst 1, 1) := by decide +kernel
theorem dJ6_numberOfTrailingZeros_0f7a4_77 : decode cJ6_numberOfTrailingZeros_0f7a4 77 = .ok (.iushr, 1) := by decide +kernel
theorem dJ6_numberOfTrailingZeros_0f7a4_78 : decode cJ6_numberOfTrailingZeros_0f7a4 78 = .ok (.iadd, 1) := by decide +kernel
theorem dJ6_numberOfTrailingZeros_0f7a4_79 : decode cJ6_numberOfTrailingZeros_0f7a4 79 = .ok (.ireturn, 1) := by decide +kernel
set_option maxHeartbeats 4000000 in
set_option maxRecDepth 100000 in
theorem g_J6_numberOfTrailingZeros_0f7a4 {E : fh_E} {M : fh_M} (C : fh_Cx E M cJ6_numberOfTrailingZeros_0f7a4 2 RJ6 ((some FieldType.int)) rm_J6_numberOfTrailingZeros_0f7a4) (Hr : fh_Rt E M) (a1 : Int32) (σ2 : fh_S) : fh_Go E M 2 fh_vI 0 [(0, .int a1)] [] σ2 (f_J6_numberOfTrailingZeros_0f7a4 a1 σ2) := by
  have hok := fh_cok C
  refine go_iload_n C 0 rfl rfl dJ6_numberOfTrailingZeros_0f7a4_0 ?_
  refine go_iconst C (-1 : Int32) dJ6_numberOfTrailingZeros_0f7a4_1 rfl ?_
  refine go_ixor C dJ6_numberOfTrailingZeros_0f7a4_2 ?_
  refine go_iload_n C 0 rfl rfl dJ6_numberOfTrailingZeros_0f7a4_3 ?_
  refine go_iconst C (1 : Int32) dJ6_numberOfTrailingZeros_0f7a4_4 rfl ?_
  refine go_isub C dJ6_numberOfTrailingZeros_0f7a4_5 ?_
  refine go_iand C dJ6_numberOfTrailingZeros_0f7a4_6 ?_
  refine go_istore_n C [(0, .int ((a1 ^^^ ((-1 : Int32))) &&& (a1 - ((1 : Int32)))))] rfl rfl (by decide) dJ6_numberOfTrailingZeros_0f7a4_7 ?_
  refine go_iload_n C 0 rfl rfl dJ6_numberOfTrailingZeros_0f7a4_8 ?_
  refine go_if_gt (tgt := 17) C dJ6_numberOfTrailingZeros_0f7a4_9 rfl (fun _ => ?_) (fun _ => ?_)
  · refine go_iconst C (1 : Int32) dJ6_numberOfTrailingZeros_0f7a4_17 rfl ?_
    refine go_istore_n C [(1, .int ((1 : Int32))), (0, .int ((a1 ^^^ ((-1 : Int32))) &&& (a1 - ((1 : Int32)))))] rfl rfl (by decide) dJ6_numberOfTrailingZeros_0f7a4_18 ?_
    refine go_iload_n C 1 rfl rfl dJ6_numberOfTrailingZeros_0f7a4_19 ?_
    refine go_ldcw C q_345 dJ6_numberOfTrailingZeros_0f7a4_20 ?_
    refine go_jn (fun (j18 : Int32 → Int32 → fh_S → Option (Int32 × fh_S)) => ∀ (x3 : Int32) (x4 : Int32) (σ5 : fh_S), fh_Go E M 2 fh_vI 34 [(0, .int x3), (1, .int x4)] [] σ5 (j18 x3 x4 σ5)) ?_ (fun j18 hj18 => ?_)
    · intro x3 x4 σ5
      refine go_iload_n C 0 rfl rfl dJ6_numberOfTrailingZeros_0f7a4_34 ?_
      refine go_sipush C (256 : Int32) dJ6_numberOfTrailingZeros_0f7a4_35 rfl ?_
      refine go_jn (fun (j17 : Int32 → Int32 → fh_S → Option (Int32 × fh_S)) => ∀ (x6 : Int32) (x7 : Int32) (σ8 : fh_S), fh_Go E M 2 fh_vI 49 [(0, .int x6), (1, .int x7)] [] σ8 (j17 x6 x7 σ8)) ?_ (fun j17 hj17 => ?_)
      · intro x6 x7 σ8
        refine go_iload_n C 0 rfl rfl dJ6_numberOfTrailingZeros_0f7a4_49 ?_
        refine go_bipush C (16 : Int32) dJ6_numberOfTrailingZeros_0f7a4_50 rfl ?_
        refine go_jn (fun (j16 : Int32 → Int32 → fh_S → Option (Int32 × fh_S)) => ∀ (x9 : Int32) (x10 : Int32) (σ11 : fh_S), fh_Go E M 2 fh_vI 62 [(0, .int x9), (1, .int x10)] [] σ11 (j16 x9 x10 σ11)) ?_ (fun j16 hj16 => ?_)
        · intro x9 x10 σ11
          refine go_iload_n C 0 rfl rfl dJ6_numberOfTrailingZeros_0f7a4_62 ?_
          refine go_iconst C (4 : Int32) dJ6_numberOfTrailingZeros_0f7a4_63 rfl ?_
          refine go_jn (fun (j15 : Int32 → Int32 → fh_S → Option (Int32 × fh_S)) => ∀ (x12 : Int32) (x13 : Int32) (σ14 : fh_S), fh_Go E M 2 fh_vI 74 [(0, .int x12), (1, .int x13)] [] σ14 (j15 x12 x13 σ14)) ?_ (fun j15 hj15 => ?_)
          · intro x12 x13 σ14
            refine go_iload_n C 1 rfl rfl dJ6_numberOfTrailingZeros_0f7a4_74 ?_
            refine go_iload_n C 0 rfl rfl dJ6_numberOfTrailingZeros_0f7a4_75 ?_
            refine go_iconst C (1 : Int32) dJ6_numberOfTrailingZeros_0f7a4_76 rfl ?_
            refine go_iushr C dJ6_numberOfTrailingZeros_0f7a4_77 ?_
            refine go_iadd C dJ6_numberOfTrailingZeros_0f7a4_78 ?_
            exact go_iret C Hr rfl dJ6_numberOfTrailingZeros_0f7a4_79
          refine go_icmp_le (tgt := 74) C dJ6_numberOfTrailingZeros_0f7a4_64 rfl (fun _ => ?_) (fun _ => ?_)
          · exact hj15 x9 x10 σ11
          · refine go_iinc C (x10 + 2) 1 [(1, .int (x10 + 2)), (0, .int x9)] rfl rfl rfl (by decide) dJ6_numberOfTrailingZeros_0f7a4_67 ?_
            refine go_iload_n C 1 rfl rfl dJ6_numberOfTrailingZeros_0f7a4_70 ?_
            refine go_iconst C (2 : Int32) dJ6_numberOfTrailingZeros_0f7a4_71 rfl ?_
            refine go_iushr C dJ6_numberOfTrailingZeros_0f7a4_72 ?_
            refine go_istore_n C [(0, .int ((x9.toUInt32 >>> (((2 : Int32)).toUInt32 &&& Int32.toUInt32 31)).toInt32)), (1, .int (x10 + 2))] rfl rfl (by decide) dJ6_numberOfTrailingZeros_0f7a4_73 ?_
            exact hj15 ((x9.toUInt32 >>> (((2 : Int32)).toUInt32 &&& Int32.toUInt32 31)).toInt32) (x10 + 2) σ11
        refine go_icmp_le (tgt := 62) C dJ6_numberOfTrailingZeros_0f7a4_52 rfl (fun _ => ?_) (fun _ => ?_)
        · exact hj16 x6 x7 σ8
        · refine go_iinc C (x7 + 4) 1 [(1, .int (x7 + 4)), (0, .int x6)] rfl rfl rfl (by decide) dJ6_numberOfTrailingZeros_0f7a4_55 ?_
          refine go_iload_n C 1 rfl rfl dJ6_numberOfTrailingZeros_0f7a4_58 ?_
          refine go_iconst C (4 : Int32) dJ6_numberOfTrailingZeros_0f7a4_59 rfl ?_
          refine go_iushr C dJ6_numberOfTrailingZeros_0f7a4_60 ?_
          refine go_istore_n C [(0, .int ((x6.toUInt32 >>> (((4 : Int32)).toUInt32 &&& Int32.toUInt32 31)).toInt32)), (1, .int (x7 + 4))] rfl rfl (by decide) dJ6_numberOfTrailingZeros_0f7a4_61 ?_
          exact hj16 ((x6.toUInt32 >>> (((4 : Int32)).toUInt32 &&& Int32.toUInt32 31)).toInt32) (x7 + 4) σ8
      refine go_icmp_le (tgt := 49) C dJ6_numberOfTrailingZeros_0f7a4_38 rfl (fun _ => ?_) (fun _ => ?_)
      · exact hj17 x3 x4 σ5
      · refine go_iinc C (x4 + 8) 1 [(1, .int (x4 + 8)), (0, .int x3)] rfl rfl rfl (by decide) dJ6_numberOfTrailingZeros_0f7a4_41 ?_
        refine go_iload_n C 1 rfl rfl dJ6_numberOfTrailingZeros_0f7a4_44 ?_
        refine go_bipush C (8 : Int32) dJ6_numberOfTrailingZeros_0f7a4_45 rfl ?_
        refine go_iushr C dJ6_numberOfTrailingZeros_0f7a4_47 ?_
        refine go_istore_n C [(0, .int ((x3.toUInt32 >>> (((8 : Int32)).toUInt32 &&& Int32.toUInt32 31)).toInt32)), (1, .int (x4 + 8))] rfl rfl (by decide) dJ6_numberOfTrailingZeros_0f7a4_48 ?_
        exact hj17 ((x3.toUInt32 >>> (((8 : Int32)).toUInt32 &&& Int32.toUInt32 31)).toInt32) (x4 + 8) σ5
    refine go_icmp_le (tgt := 34) C dJ6_numberOfTrailingZeros_0f7a4_23 rfl (fun _ => ?_) (fun _ => ?_)
    · refine go_lv [1, 0] (lv' := [(0, .int ((a1 ^^^ ((-1 : Int32))) &&& (a1 - ((1 : Int32))))), (1, .int ((1 : Int32)))]) rfl ?_
      exact hj18 ((a1 ^^^ ((-1 : Int32))) &&& (a1 - ((1 : Int32)))) ((1 : Int32)) σ2
    · refine go_iinc C (((1 : Int32)) + 16) 0 [(1, .int (((1 : Int32)) + 16)), (0, .int ((a1 ^^^ ((-1 : Int32))) &&& (a1 - ((1 : Int32)))))] rfl rfl rfl (by decide) dJ6_numberOfTrailingZeros_0f7a4_26 ?_
      refine go_iload_n C 1 rfl rfl dJ6_numberOfTrailingZeros_0f7a4_29 ?_
      refine go_bipush C (16 : Int32) dJ6_numberOfTrailingZeros_0f7a4_30 rfl ?_
      refine go_iushr C dJ6_numberOfTrailingZeros_0f7a4_32 ?_
      refine go_istore_n C [(0, .int ((((a1 ^^^ ((-1 : Int32))) &&& (a1 - ((1 : Int32)))).toUInt32 >>> (((16 : Int32)).toUInt32 &&& Int32.toUInt32 31)).toInt32)), (1, .int (((1 : Int32)) + 16))] rfl rfl (by decide) dJ6_numberOfTrailingZeros_0f7a4_33 ?_
      exact hj18 ((((a1 ^^^ ((-1 : Int32))) &&& (a1 - ((1 : Int32)))).toUInt32 >>> (((16 : Int32)).toUInt32 &&& Int32.toUInt32 31)).toInt32) (((1 : Int32)) + 16) σ2
  · refine go_iload_n C 0 rfl rfl dJ6_numberOfTrailingZeros_0f7a4_12 ?_
    refine go_bipush C (32 : Int32) dJ6_numberOfTrailingZeros_0f7a4_13 rfl ?_
    refine go_iand C dJ6_numberOfTrailingZeros_0f7a4_15 ?_
    exact go_iret C Hr rfl dJ6_numberOfTrailingZeros_0f7a4_16
theorem m_J6_numberOfTrailingZeros_0f7a4 (E : fh_E) (l : Launch) (hok : fh_ok E) (a1 : Int32) (σ2 : fh_S) : fh_Met E l yJ6_numberOfTrailingZeros_0f7a4 cJ6_numberOfTrailingZeros_0f7a4 2 ((some FieldType.int)) rm_J6_numberOfTrailingZeros_0f7a4 fh_vI [.int a1] σ2 (f_J6_numberOfTrailingZeros_0f7a4 a1 σ2) := fh_met hok (by decide +kernel) (Nat.le_of_ble_eq_true rfl) (fun M _ C Hr => g_J6_numberOfTrailingZeros_0f7a4 C Hr a1 σ2)
def f_X4_lowestOf (a1 : Int32) (σ2 : fh_S) : Option (Int32 × fh_S) := fh_cb (f_J6_numberOfTrailingZeros_0f7a4 a1 σ2) fun r4 σ3 => some (r4, σ3)
abbrev rm_X4_lowestOf : Room := { frames := 1, cells := 0, slots := 0, locals := 21 }
theorem pd_X4_lowestOf : yX4_lowestOf.cls ≠ "java/lang/invoke/MethodHandle" ∧ yX4_lowestOf.cls ≠ "java/lang/invoke/VarHandle" ∧ (parseMethodDescriptor yX4_lowestOf.desc).map (fun d => d.parameters.length) = some 1 := by decide +kernel
theorem dX4_lowestOf_0 : decode cX4_lowestOf 0 = .ok (.iload_n 0, 1) := by decide +kernel
theorem dX4_lowestOf_1 : decode cX4_lowestOf 1 = .ok (.invokestatic 278, 3) := by decide +kernel
theorem dX4_lowestOf_4 : decode cX4_lowestOf 4 = .ok (.ireturn, 1) := by decide +kernel
set_option maxHeartbeats 4000000 in
set_option maxRecDepth 100000 in
theorem g_X4_lowestOf {E : fh_E} {M : fh_M} (C : fh_Cx E M cX4_lowestOf 1 RX4 ((some FieldType.int)) rm_X4_lowestOf) (Hr : fh_Rt E M) (a1 : Int32) (σ2 : fh_S) : fh_Go E M 1 fh_vI 0 [(0, .int a1)] [] σ2 (f_X4_lowestOf a1 σ2) := by
  have hok := fh_cok C
  refine go_iload_n C 0 rfl rfl dX4_lowestOf_0 ?_
  refine go_callSI C (st := []) [.int a1] (m_J6_numberOfTrailingZeros_0f7a4 E _ hok a1 σ2) rfl ⟨q_342, q_343, q_8, q_344⟩ pd_J6_numberOfTrailingZeros_0f7a4 rfl ⟨⟨Nat.le_of_ble_eq_true rfl, Nat.le_of_ble_eq_true rfl⟩, rfl, rfl⟩ (Nat.le_of_ble_eq_true rfl) dX4_lowestOf_1 (fun r4 σ3 => ?_)
  exact go_iret C Hr rfl dX4_lowestOf_4
theorem m_X4_lowestOf (E : fh_E) (l : Launch) (hok : fh_ok E) (a1 : Int32) (σ2 : fh_S) : fh_Met E l yX4_lowestOf cX4_lowestOf 1 ((some FieldType.int)) rm_X4_lowestOf fh_vI [.int a1] σ2 (f_X4_lowestOf a1 σ2) := fh_met hok (by decide +kernel) (Nat.le_of_ble_eq_true rfl) (fun M _ C Hr => g_X4_lowestOf C Hr a1 σ2)
def f_X0_ringCount_J27 (r6 : Int32 → Int32 → fh_S → Option (Int32 × fh_S)) (x4 : Int32) : Int32 → fh_S → Option (Int32 × fh_S) := fun x12 σ13 => r6 x12 (x4 + 1) σ13
def f_X0_ringCount_B4 (k1 : Nat) (r6 : Int32 → Int32 → fh_S → Option (Int32 × fh_S)) : Int32 → Int32 → fh_S → Option (Int32 × fh_S) := fun x3 x4 σ5 => (fh_gi σ5 0 k1 9).bind fun v7 => if v7 ≤ x4 then some (x3, σ5) else fh_cb (f_X0_ringSet k1 x4 σ5) fun r9 σ8 => fh_cb (f_X4_lowestOf r9 σ8) fun r11 σ10 => fh_jn (f_X0_ringCount_J27 r6 x4) (fun j14 => if r11 = x4 then j14 (x3 + 1) σ10 else j14 x3 σ10)
def f_X0_ringCount (k1 : Nat) (σ2 : fh_S) : Option (Int32 × fh_S) := fh_ob 0 k1 (fh_fx (ρ := Int32 → Int32 → fh_S → Option (Int32 × fh_S)) (fun _ _ _ => none) (f_X0_ringCount_B4 k1) fh_fu ((0 : Int32)) ((0 : Int32)) σ2)
abbrev rm_X0_ringCount : Room := { frames := 2, cells := 0, slots := 0, locals := 47 }
theorem pd_X0_ringCount : yX0_ringCount.cls ≠ "java/lang/invoke/MethodHandle" ∧ yX0_ringCount.cls ≠ "java/lang/invoke/VarHandle" ∧ (parseMethodDescriptor yX0_ringCount.desc).map (fun d => d.parameters.length) = some 0 := by decide +kernel
theorem dX0_ringCount_0 : decode cX0_ringCount 0 = .ok (.iconst 0, 1) := by decide +kernel
theorem dX0_ringCount_1 : decode cX0_ringCount 1 = .ok (.istore_n 1, 1) := by decide +kernel
theorem dX0_ringCount_2 : decode cX0_ringCount 2 = .ok (.iconst 0, 1) := by decide +kernel
theorem dX0_ringCount_3 : decode cX0_ringCount 3 = .ok (.istore_n 2, 1) := by decide +kernel
theorem dX0_ringCount_4 : decode cX0_ringCount 4 = .ok (.iload_n 2, 1) := by decide +kernel
theorem dX0_ringCount_5 : decode cX0_ringCount 5 = .ok (.aload_n 0, 1) := by decide +kernel
theorem dX0_ringCount_6 : decode cX0_ringCount 6 = .ok (.getfield 39, 3) := by decide +kernel
theorem dX0_ringCount_9 : decode cX0_ringCount 9 = .ok (.if_icmp .ge 24, 3) := by decide +kernel
theorem dX0_ringCount_12 : decode cX0_ringCount 12 = .ok (.aload_n 0, 1) := by decide +kernel
theorem dX0_ringCount_13 : decode cX0_ringCount 13 = .ok (.iload_n 2, 1) := by decide +kernel
theorem dX0_ringCount_14 : decode cX0_ringCount 14 = .ok (.invokevirtual 122, 3) := by decide +kernel
theorem dX0_ringCount_17 : decode cX0_ringCount 17 = .ok (.invokestatic 125, 3) := by decide +kernel
theorem dX0_ringCount_20 : decode cX0_ringCount 20 = .ok (.iload_n 2, 1) := by decide +kernel
theorem dX0_ringCount_21 : decode cX0_ringCount 21 = .ok (.if_icmp .ne 6, 3) := by decide +kernel
theorem dX0_ringCount_24 : decode cX0_ringCount 24 = .ok (.iinc 1 1, 3) := by decide +kernel
theorem dX0_ringCount_27 : decode cX0_ringCount 27 = .ok (.iinc 2 1, 3) := by decide +kernel
theorem dX0_ringCount_30 : decode cX0_ringCount 30 = .ok (.goto (-26), 3) := by decide +kernel
theorem dX0_ringCount_33 : decode cX0_ringCount 33 = .ok (.iload_n 1, 1) := by decide +kernel
theorem dX0_ringCount_34 : decode cX0_ringCount 34 = .ok (.ireturn, 1) := by decide +kernel
set_option maxHeartbeats 4000000 in
set_option maxRecDepth 100000 in
theorem g_X0_ringCount {E : fh_E} {M : fh_M} (C : fh_Cx E M cX0_ringCount 3 RX0 ((some FieldType.int)) rm_X0_ringCount) (Hr : fh_Rt E M) (k1 : Nat) (σ2 : fh_S) : fh_Go E M 3 fh_vI 0 [(0, .ref (fh_ad E k1))] [] σ2 (f_X0_ringCount k1 σ2) := by
  have hok := fh_cok C
  refine go_ob ?_
  refine go_iconst C (0 : Int32) dX0_ringCount_0 rfl ?_
  refine go_istore_n C [(1, .int ((0 : Int32))), (0, .ref (fh_ad E k1))] rfl rfl (by decide) dX0_ringCount_1 ?_
  refine go_iconst C (0 : Int32) dX0_ringCount_2 rfl ?_
  refine go_istore_n C [(2, .int ((0 : Int32))), (1, .int ((0 : Int32))), (0, .ref (fh_ad E k1))] rfl rfl (by decide) dX0_ringCount_3 ?_
  refine go_lv [2, 1, 0] (lv' := [(0, .ref (fh_ad E k1)), (1, .int ((0 : Int32))), (2, .int ((0 : Int32)))]) rfl ?_
  refine go_fx (fun (r6 : Int32 → Int32 → fh_S → Option (Int32 × fh_S)) => ∀ (x3 : Int32) (x4 : Int32) (σ5 : fh_S), fh_Go E M 3 fh_vI 4 [(0, .ref (fh_ad E k1)), (1, .int x3), (2, .int x4)] [] σ5 (r6 x3 x4 σ5)) ?_ ?_ fh_fu ((0 : Int32)) ((0 : Int32)) σ2
  · intro x3 x4 σ5
    exact go_none
  · intro r6 hr6 x3 x4 σ5
    refine go_iload_n C 2 rfl rfl dX0_ringCount_4 ?_
    refine go_aload_n C 0 rfl rfl dX0_ringCount_5 ?_
    refine go_gi (ci := 0) (j := 9) C fh_in0 rfl (by decide) rfl q_46 dX0_ringCount_6 (fun v7 => ?_)
    refine go_icmp_ge (tgt := 33) C dX0_ringCount_9 rfl (fun _ => ?_) (fun _ => ?_)
    · refine go_iload_n C 1 rfl rfl dX0_ringCount_33 ?_
      exact go_iret C Hr rfl dX0_ringCount_34
    · refine go_aload_n C 0 rfl rfl dX0_ringCount_12 ?_
      refine go_iload_n C 2 rfl rfl dX0_ringCount_13 ?_
      refine go_callVI C (st := []) [.int x4] (m_X0_ringSet E _ hok k1 x4 σ5) (fun _ h => fh_ob_ok h) rfl rfl ⟨q_338, q_326, q_327, q_2, q_328⟩ pd_X0_ringSet rfl ⟨⟨Nat.le_of_ble_eq_true rfl, Nat.le_of_ble_eq_true rfl⟩, rfl, rfl⟩ (Nat.le_of_ble_eq_true rfl) dX0_ringCount_14 (fun r9 σ8 => ?_)
      refine go_callNI C (st := []) [.int r9] (m_X4_lowestOf E _ hok r9 σ8) rfl ⟨List.mem_of_getElem? (i := 6) rfl, q_340, q_1, q_341⟩ pd_X4_lowestOf rfl ⟨⟨Nat.le_of_ble_eq_true rfl, Nat.le_of_ble_eq_true rfl⟩, rfl, rfl⟩ (Nat.le_of_ble_eq_true rfl) dX0_ringCount_17 (fun r11 σ10 => ?_)
      refine go_iload_n C 2 rfl rfl dX0_ringCount_20 ?_
      refine go_jn (fun (j14 : Int32 → fh_S → Option (Int32 × fh_S)) => ∀ (x12 : Int32) (σ13 : fh_S), fh_Go E M 3 fh_vI 27 [(0, .ref (fh_ad E k1)), (1, .int x12), (2, .int x4)] [] σ13 (j14 x12 σ13)) ?_ (fun j14 hj14 => ?_)
      · intro x12 σ13
        refine go_iinc C (x4 + 1) 2 [(2, .int (x4 + 1)), (0, .ref (fh_ad E k1)), (1, .int x12)] rfl rfl rfl (by decide) dX0_ringCount_27 ?_
        refine go_goto C 4 dX0_ringCount_30 rfl ?_
        refine go_lv [1, 2, 0] (lv' := [(0, .ref (fh_ad E k1)), (1, .int x12), (2, .int (x4 + 1))]) rfl ?_
        exact hr6 x12 (x4 + 1) σ13
      refine go_icmp_ne (tgt := 27) C dX0_ringCount_21 rfl (fun _ => ?_) (fun _ => ?_)
      · exact hj14 x3 σ10
      · refine go_iinc C (x3 + 1) 1 [(1, .int (x3 + 1)), (0, .ref (fh_ad E k1)), (2, .int x4)] rfl rfl rfl (by decide) dX0_ringCount_24 ?_
        refine go_lv [1, 0, 2] (lv' := [(0, .ref (fh_ad E k1)), (1, .int (x3 + 1)), (2, .int x4)]) rfl ?_
        exact hj14 (x3 + 1) σ10
theorem m_X0_ringCount (E : fh_E) (l : Launch) (hok : fh_ok E) (k1 : Nat) (σ2 : fh_S) : fh_Met E l yX0_ringCount cX0_ringCount 3 ((some FieldType.int)) rm_X0_ringCount fh_vI [.ref (fh_ad E k1)] σ2 (f_X0_ringCount k1 σ2) := fh_met hok (by decide +kernel) (Nat.le_of_ble_eq_true rfl) (fun M _ C Hr => g_X0_ringCount C Hr k1 σ2)
def f_X4_isIn (a1 : Int32) (a2 : Int32) (σ3 : fh_S) : Option (Int32 × fh_S) := if ((a1 >>> (a2 &&& 31)) &&& ((1 : Int32))) = ((1 : Int32)) then fh_rz ((1 : Int32)) σ3 else fh_rz ((0 : Int32)) σ3
abbrev rm_X4_isIn : Room := { frames := 0, cells := 0, slots := 0, locals := 0 }
theorem pd_X4_isIn : yX4_isIn.cls ≠ "java/lang/invoke/MethodHandle" ∧ yX4_isIn.cls ≠ "java/lang/invoke/VarHandle" ∧ (parseMethodDescriptor yX4_isIn.desc).map (fun d => d.parameters.length) = some 2 := by decide +kernel
theorem dX4_isIn_0 : decode cX4_isIn 0 = .ok (.iload_n 0, 1) := by decide +kernel
theorem dX4_isIn_1 : decode cX4_isIn 1 = .ok (.iload_n 1, 1) := by decide +kernel
theorem dX4_isIn_2 : decode cX4_isIn 2 = .ok (.ishr, 1) := by decide +kernel
theorem dX4_isIn_3 : decode cX4_isIn 3 = .ok (.iconst 1, 1) := by decide +kernel
theorem dX4_isIn_4 : decode cX4_isIn 4 = .ok (.iand, 1) := by decide +kernel
theorem dX4_isIn_5 : decode cX4_isIn 5 = .ok (.iconst 1, 1) := by decide +kernel
theorem dX4_isIn_6 : decode cX4_isIn 6 = .ok (.if_icmp .ne 7, 3) := by decide +kernel
theorem dX4_isIn_9 : decode cX4_isIn 9 = .ok (.iconst 1, 1) := by decide +kernel
theorem dX4_isIn_10 : decode cX4_isIn 10 = .ok (.goto 4, 3) := by decide +kernel
theorem dX4_isIn_13 : decode cX4_isIn 13 = .ok (.iconst 0, 1) := by decide +kernel
theorem dX4_isIn_14 : decode cX4_isIn 14 = .ok (.ireturn, 1) := by decide +kernel
set_option maxHeartbeats 4000000 in
set_option maxRecDepth 100000 in
theorem g_X4_isIn {E : fh_E} {M : fh_M} (C : fh_Cx E M cX4_isIn 2 RX4 ((some FieldType.boolean)) rm_X4_isIn) (Hr : fh_Rt E M) (a1 : Int32) (a2 : Int32) (σ3 : fh_S) : fh_Go E M 2 fh_vI 0 [(0, .int a1), (1, .int a2)] [] σ3 (f_X4_isIn a1 a2 σ3) := by
  have hok := fh_cok C
  refine go_iload_n C 0 rfl rfl dX4_isIn_0 ?_
  refine go_iload_n C 1 rfl rfl dX4_isIn_1 ?_
  refine go_ishr C dX4_isIn_2 ?_
  refine go_iconst C (1 : Int32) dX4_isIn_3 rfl ?_
  refine go_iand C dX4_isIn_4 ?_
  refine go_iconst C (1 : Int32) dX4_isIn_5 rfl ?_
  refine go_icmp_ne (tgt := 13) C dX4_isIn_6 rfl (fun _ => ?_) (fun _ => ?_)
  · refine go_iconst C (0 : Int32) dX4_isIn_13 rfl ?_
    exact go_zret C Hr dX4_isIn_14
  · refine go_iconst C (1 : Int32) dX4_isIn_9 rfl ?_
    refine go_goto C 14 dX4_isIn_10 rfl ?_
    exact go_zret C Hr dX4_isIn_14
theorem m_X4_isIn (E : fh_E) (l : Launch) (hok : fh_ok E) (a1 : Int32) (a2 : Int32) (σ3 : fh_S) : fh_Met E l yX4_isIn cX4_isIn 2 ((some FieldType.boolean)) rm_X4_isIn fh_vI [.int a1, .int a2] σ3 (f_X4_isIn a1 a2 σ3) := fh_met hok (by decide +kernel) (Nat.le_of_ble_eq_true rfl) (fun M _ C Hr => g_X4_isIn C Hr a1 a2 σ3)
def f_X0_stepsToRing_B14 (k1 : Nat) (r5 : Int32) (r10 : Int32 → Int32 → Int32 → fh_S → Option (Int32 × fh_S)) : Int32 → Int32 → Int32 → fh_S → Option (Int32 × fh_S) := fun x6 x7 x8 σ9 => (fh_gi σ9 0 k1 9).bind fun v11 => if v11 ≤ x8 then some (x7, σ9) else fh_cb (f_X4_isIn r5 x6 σ9) fun r13 σ12 => if r13 = 0 then (fh_gr 0 k1 2).bind fun k14 => (fh_ld σ12 k14 x6).bind fun v15 => r10 v15 (x7 + 1) (x8 + 1) σ12 else some (x7, σ12)
def f_X0_stepsToRing (k1 : Nat) (a2 : Int32) (σ3 : fh_S) : Option (Int32 × fh_S) := fh_ob 0 k1 (fh_cb (f_X0_ringSet k1 a2 σ3) fun r5 σ4 => fh_fx (ρ := Int32 → Int32 → Int32 → fh_S → Option (Int32 × fh_S)) (fun _ _ _ _ => none) (f_X0_stepsToRing_B14 k1 r5) fh_fu a2 ((0 : Int32)) ((0 : Int32)) σ4)
abbrev rm_X0_stepsToRing : Room := { frames := 2, cells := 0, slots := 0, locals := 47 }
theorem pd_X0_stepsToRing : yX0_stepsToRing.cls ≠ "java/lang/invoke/MethodHandle" ∧ yX0_stepsToRing.cls ≠ "java/lang/invoke/VarHandle" ∧ (parseMethodDescriptor yX0_stepsToRing.desc).map (fun d => d.parameters.length) = some 1 := by decide +kernel
theorem dX0_stepsToRing_0 : decode cX0_stepsToRing 0 = .ok (.aload_n 0, 1) := by decide +kernel
theorem dX0_stepsToRing_1 : decode cX0_stepsToRing 1 = .ok (.iload_n 1, 1) := by decide +kernel
theorem dX0_stepsToRing_2 : decode cX0_stepsToRing 2 = .ok (.invokevirtual 122, 3) := by decide +kernel
theorem dX0_stepsToRing_5 : decode cX0_stepsToRing 5 = .ok (.istore_n 2, 1) := by decide +kernel
theorem dX0_stepsToRing_6 : decode cX0_stepsToRing 6 = .ok (.iload_n 1, 1) := by decide +kernel
theorem dX0_stepsToRing_7 : decode cX0_stepsToRing 7 = .ok (.istore_n 3, 1) := by decide +kernel
theorem dX0_stepsToRing_8 : decode cX0_stepsToRing 8 = .ok (.iconst 0, 1) := by decide +kernel
theorem dX0_stepsToRing_9 : decode cX0_stepsToRing 9 = .ok (.istore 4, 2) := by decide +kernel
theorem dX0_stepsToRing_11 : decode cX0_stepsToRing 11 = .ok (.iconst 0, 1) := by decide +kernel
theorem dX0_stepsToRing_12 : decode cX0_stepsToRing 12 = .ok (.istore 5, 2) := by decide +kernel
theorem dX0_stepsToRing_14 : decode cX0_stepsToRing 14 = .ok (.iload 5, 2) := by decide +kernel
theorem dX0_stepsToRing_16 : decode cX0_stepsToRing 16 = .ok (.aload_n 0, 1) := by decide +kernel
theorem dX0_stepsToRing_17 : decode cX0_stepsToRing 17 = .ok (.getfield 39, 3) := by decide +kernel
theorem dX0_stepsToRing_20 : decode cX0_stepsToRing 20 = .ok (.if_icmp .ge 27, 3) := by decide +kernel
theorem dX0_stepsToRing_23 : decode cX0_stepsToRing 23 = .ok (.iload_n 2, 1) := by decide +kernel
theorem dX0_stepsToRing_24 : decode cX0_stepsToRing 24 = .ok (.iload_n 3, 1) := by decide +kernel
theorem dX0_stepsToRing_25 : decode cX0_stepsToRing 25 = .ok (.invokestatic 128, 3) := by decide +kernel
theorem dX0_stepsToRing_28 : decode cX0_stepsToRing 28 = .ok (.ifCond .ne 19, 3) := by decide +kernel
theorem dX0_stepsToRing_31 : decode cX0_stepsToRing 31 = .ok (.aload_n 0, 1) := by decide +kernel
theorem dX0_stepsToRing_32 : decode cX0_stepsToRing 32 = .ok (.getfield 18, 3) := by decide +kernel
theorem dX0_stepsToRing_35 : decode cX0_stepsToRing 35 = .ok (.iload_n 3, 1) := by decide +kernel
theorem dX0_stepsToRing_36 : decode cX0_stepsToRing 36 = .ok (.iaload, 1) := by decide +kernel
theorem dX0_stepsToRing_37 : decode cX0_stepsToRing 37 = .ok (.istore_n 3, 1) := by decide +kernel
theorem dX0_stepsToRing_38 : decode cX0_stepsToRing 38 = .ok (.iinc 4 1, 3) := by decide +kernel
theorem dX0_stepsToRing_41 : decode cX0_stepsToRing 41 = .ok (.iinc 5 1, 3) := by decide +kernel
theorem dX0_stepsToRing_44 : decode cX0_stepsToRing 44 = .ok (.goto (-30), 3) := by decide +kernel
theorem dX0_stepsToRing_47 : decode cX0_stepsToRing 47 = .ok (.iload 4, 2) := by decide +kernel
theorem dX0_stepsToRing_49 : decode cX0_stepsToRing 49 = .ok (.ireturn, 1) := by decide +kernel
set_option maxHeartbeats 4000000 in
set_option maxRecDepth 100000 in
theorem g_X0_stepsToRing {E : fh_E} {M : fh_M} (C : fh_Cx E M cX0_stepsToRing 6 RX0 ((some FieldType.int)) rm_X0_stepsToRing) (Hr : fh_Rt E M) (k1 : Nat) (a2 : Int32) (σ3 : fh_S) : fh_Go E M 6 fh_vI 0 [(0, .ref (fh_ad E k1)), (1, .int a2)] [] σ3 (f_X0_stepsToRing k1 a2 σ3) := by
  have hok := fh_cok C
  refine go_ob ?_
  refine go_aload_n C 0 rfl rfl dX0_stepsToRing_0 ?_
  refine go_iload_n C 1 rfl rfl dX0_stepsToRing_1 ?_
  refine go_callVI C (st := []) [.int a2] (m_X0_ringSet E _ hok k1 a2 σ3) (fun _ h => fh_ob_ok h) rfl rfl ⟨q_338, q_326, q_327, q_2, q_328⟩ pd_X0_ringSet rfl ⟨⟨Nat.le_of_ble_eq_true rfl, Nat.le_of_ble_eq_true rfl⟩, rfl, rfl⟩ (Nat.le_of_ble_eq_true rfl) dX0_stepsToRing_2 (fun r5 σ4 => ?_)
  refine go_istore_n C [(2, .int r5), (0, .ref (fh_ad E k1)), (1, .int a2)] rfl rfl (by decide) dX0_stepsToRing_5 ?_
  refine go_iload_n C 2 rfl rfl dX0_stepsToRing_6 ?_
  refine go_istore_n C [(3, .int a2), (2, .int r5), (0, .ref (fh_ad E k1)), (1, .int a2)] rfl rfl (by decide) dX0_stepsToRing_7 ?_
  refine go_iconst C (0 : Int32) dX0_stepsToRing_8 rfl ?_
  refine go_istore C [(4, .int ((0 : Int32))), (3, .int a2), (2, .int r5), (0, .ref (fh_ad E k1)), (1, .int a2)] rfl (by decide) dX0_stepsToRing_9 ?_
  refine go_iconst C (0 : Int32) dX0_stepsToRing_11 rfl ?_
  refine go_istore C [(5, .int ((0 : Int32))), (4, .int ((0 : Int32))), (3, .int a2), (2, .int r5), (0, .ref (fh_ad E k1)), (1, .int a2)] rfl (by decide) dX0_stepsToRing_12 ?_
  refine go_lv [4, 3, 2, 1, 0] (lv' := [(0, .ref (fh_ad E k1)), (2, .int r5), (3, .int a2), (4, .int ((0 : Int32))), (5, .int ((0 : Int32)))]) rfl ?_
  refine go_fx (fun (r10 : Int32 → Int32 → Int32 → fh_S → Option (Int32 × fh_S)) => ∀ (x6 : Int32) (x7 : Int32) (x8 : Int32) (σ9 : fh_S), fh_Go E M 6 fh_vI 14 [(0, .ref (fh_ad E k1)), (2, .int r5), (3, .int x6), (4, .int x7), (5, .int x8)] [] σ9 (r10 x6 x7 x8 σ9)) ?_ ?_ fh_fu a2 ((0 : Int32)) ((0 : Int32)) σ4
  · intro x6 x7 x8 σ9
    exact go_none
  · intro r10 hr10 x6 x7 x8 σ9
    refine go_iload C 4 rfl dX0_stepsToRing_14 ?_
    refine go_aload_n C 0 rfl rfl dX0_stepsToRing_16 ?_
    refine go_gi (ci := 0) (j := 9) C fh_in0 rfl (by decide) rfl q_46 dX0_stepsToRing_17 (fun v11 => ?_)
    refine go_icmp_ge (tgt := 47) C dX0_stepsToRing_20 rfl (fun _ => ?_) (fun _ => ?_)
    · refine go_iload C 3 rfl dX0_stepsToRing_47 ?_
      exact go_iret C Hr rfl dX0_stepsToRing_49
    · refine go_iload_n C 1 rfl rfl dX0_stepsToRing_23 ?_
      refine go_iload_n C 2 rfl rfl dX0_stepsToRing_24 ?_
      refine go_callNI C (st := []) [.int r5, .int x6] (m_X4_isIn E _ hok r5 x6 σ9) rfl ⟨List.mem_of_getElem? (i := 7) rfl, q_355, q_1, q_356⟩ pd_X4_isIn rfl ⟨⟨Nat.le_of_ble_eq_true rfl, Nat.le_of_ble_eq_true rfl⟩, rfl, rfl⟩ (Nat.le_of_ble_eq_true rfl) dX0_stepsToRing_25 (fun r13 σ12 => ?_)
      refine go_if_ne (tgt := 47) C dX0_stepsToRing_28 rfl (fun _ => ?_) (fun _ => ?_)
      · refine go_iload C 3 rfl dX0_stepsToRing_47 ?_
        exact go_iret C Hr rfl dX0_stepsToRing_49
      · refine go_aload_n C 0 rfl rfl dX0_stepsToRing_31 ?_
        refine go_gr (ci := 0) (j := 2) C fh_in0 rfl (by decide) rfl q_33 dX0_stepsToRing_32 (fun k14 => ?_)
        refine go_iload_n C 2 rfl rfl dX0_stepsToRing_35 ?_
        refine go_iald C dX0_stepsToRing_36 (fun v15 => ?_)
        refine go_istore_n C [(3, .int v15), (0, .ref (fh_ad E k1)), (2, .int r5), (4, .int x7), (5, .int x8)] rfl rfl (by decide) dX0_stepsToRing_37 ?_
        refine go_iinc C (x7 + 1) 3 [(4, .int (x7 + 1)), (3, .int v15), (0, .ref (fh_ad E k1)), (2, .int r5), (5, .int x8)] rfl rfl rfl (by decide) dX0_stepsToRing_38 ?_
        refine go_iinc C (x8 + 1) 4 [(5, .int (x8 + 1)), (4, .int (x7 + 1)), (3, .int v15), (0, .ref (fh_ad E k1)), (2, .int r5)] rfl rfl rfl (by decide) dX0_stepsToRing_41 ?_
        refine go_goto C 14 dX0_stepsToRing_44 rfl ?_
        refine go_lv [3, 4, 2, 1, 0] (lv' := [(0, .ref (fh_ad E k1)), (2, .int r5), (3, .int v15), (4, .int (x7 + 1)), (5, .int (x8 + 1))]) rfl ?_
        exact hr10 v15 (x7 + 1) (x8 + 1) σ12
theorem m_X0_stepsToRing (E : fh_E) (l : Launch) (hok : fh_ok E) (k1 : Nat) (a2 : Int32) (σ3 : fh_S) : fh_Met E l yX0_stepsToRing cX0_stepsToRing 6 ((some FieldType.int)) rm_X0_stepsToRing fh_vI [.ref (fh_ad E k1), .int a2] σ3 (f_X0_stepsToRing k1 a2 σ3) := fh_met hok (by decide +kernel) (Nat.le_of_ble_eq_true rfl) (fun M _ C Hr => g_X0_stepsToRing C Hr k1 a2 σ3)
def f_X0_underSet_J30 (r7 : Int32 → Int32 → fh_S → Option (Int32 × fh_S)) (x5 : Int32) : Int32 → fh_S → Option (Int32 × fh_S) := fun x13 σ14 => r7 x13 (x5 + 1) σ14
def f_X0_underSet_B4 (k1 : Nat) (a2 : Int32) (r7 : Int32 → Int32 → fh_S → Option (Int32 × fh_S)) : Int32 → Int32 → fh_S → Option (Int32 × fh_S) := fun x4 x5 σ6 => (fh_gi σ6 0 k1 9).bind fun v8 => if v8 ≤ x5 then some (x4, σ6) else fh_cb (f_X0_waySet k1 x5 σ6) fun r10 σ9 => fh_cb (f_X4_isIn r10 a2 σ9) fun r12 σ11 => fh_jn (f_X0_underSet_J30 r7 x5) (fun j15 => if r12 = 0 then j15 x4 σ11 else j15 (x4 ||| (((1 : Int32)) <<< (x5 &&& 31))) σ11)
def f_X0_underSet (k1 : Nat) (a2 : Int32) (σ3 : fh_S) : Option (Int32 × fh_S) := fh_ob 0 k1 (fh_fx (ρ := Int32 → Int32 → fh_S → Option (Int32 × fh_S)) (fun _ _ _ => none) (f_X0_underSet_B4 k1 a2) fh_fu ((0 : Int32)) ((0 : Int32)) σ3)
abbrev rm_X0_underSet : Room := { frames := 1, cells := 0, slots := 0, locals := 24 }
theorem pd_X0_underSet : yX0_underSet.cls ≠ "java/lang/invoke/MethodHandle" ∧ yX0_underSet.cls ≠ "java/lang/invoke/VarHandle" ∧ (parseMethodDescriptor yX0_underSet.desc).map (fun d => d.parameters.length) = some 1 := by decide +kernel
theorem dX0_underSet_0 : decode cX0_underSet 0 = .ok (.iconst 0, 1) := by decide +kernel
theorem dX0_underSet_1 : decode cX0_underSet 1 = .ok (.istore_n 2, 1) := by decide +kernel
theorem dX0_underSet_2 : decode cX0_underSet 2 = .ok (.iconst 0, 1) := by decide +kernel
theorem dX0_underSet_3 : decode cX0_underSet 3 = .ok (.istore_n 3, 1) := by decide +kernel
theorem dX0_underSet_4 : decode cX0_underSet 4 = .ok (.iload_n 3, 1) := by decide +kernel
theorem dX0_underSet_5 : decode cX0_underSet 5 = .ok (.aload_n 0, 1) := by decide +kernel
theorem dX0_underSet_6 : decode cX0_underSet 6 = .ok (.getfield 39, 3) := by decide +kernel
theorem dX0_underSet_9 : decode cX0_underSet 9 = .ok (.if_icmp .ge 27, 3) := by decide +kernel
theorem dX0_underSet_12 : decode cX0_underSet 12 = .ok (.aload_n 0, 1) := by decide +kernel
theorem dX0_underSet_13 : decode cX0_underSet 13 = .ok (.iload_n 3, 1) := by decide +kernel
theorem dX0_underSet_14 : decode cX0_underSet 14 = .ok (.invokevirtual 119, 3) := by decide +kernel
theorem dX0_underSet_17 : decode cX0_underSet 17 = .ok (.iload_n 1, 1) := by decide +kernel
theorem dX0_underSet_18 : decode cX0_underSet 18 = .ok (.invokestatic 128, 3) := by decide +kernel
theorem dX0_underSet_21 : decode cX0_underSet 21 = .ok (.ifCond .eq 9, 3) := by decide +kernel
theorem dX0_underSet_24 : decode cX0_underSet 24 = .ok (.iload_n 2, 1) := by decide +kernel
theorem dX0_underSet_25 : decode cX0_underSet 25 = .ok (.iconst 1, 1) := by decide +kernel
theorem dX0_underSet_26 : decode cX0_underSet 26 = .ok (.iload_n 3, 1) := by decide +kernel
theorem dX0_underSet_27 : decode cX0_underSet 27 = .ok (.ishl, 1) := by decide +kernel
theorem dX0_underSet_28 : decode cX0_underSet 28 = .ok (.ior, 1) := by decide +kernel
theorem dX0_underSet_29 : decode cX0_underSet 29 = .ok (.istore_n 2, 1) := by decide +kernel
theorem dX0_underSet_30 : decode cX0_underSet 30 = .ok (.iinc 3 1, 3) := by decide +kernel
theorem dX0_underSet_33 : decode cX0_underSet 33 = .ok (.goto (-29), 3) := by decide +kernel
theorem dX0_underSet_36 : decode cX0_underSet 36 = .ok (.iload_n 2, 1) := by decide +kernel
theorem dX0_underSet_37 : decode cX0_underSet 37 = .ok (.ireturn, 1) := by decide +kernel
set_option maxHeartbeats 4000000 in
set_option maxRecDepth 100000 in
theorem g_X0_underSet {E : fh_E} {M : fh_M} (C : fh_Cx E M cX0_underSet 4 RX0 ((some FieldType.int)) rm_X0_underSet) (Hr : fh_Rt E M) (k1 : Nat) (a2 : Int32) (σ3 : fh_S) : fh_Go E M 4 fh_vI 0 [(0, .ref (fh_ad E k1)), (1, .int a2)] [] σ3 (f_X0_underSet k1 a2 σ3) := by
  have hok := fh_cok C
  refine go_ob ?_
  refine go_iconst C (0 : Int32) dX0_underSet_0 rfl ?_
  refine go_istore_n C [(2, .int ((0 : Int32))), (0, .ref (fh_ad E k1)), (1, .int a2)] rfl rfl (by decide) dX0_underSet_1 ?_
  refine go_iconst C (0 : Int32) dX0_underSet_2 rfl ?_
  refine go_istore_n C [(3, .int ((0 : Int32))), (2, .int ((0 : Int32))), (0, .ref (fh_ad E k1)), (1, .int a2)] rfl rfl (by decide) dX0_underSet_3 ?_
  refine go_lv [2, 3, 1, 0] (lv' := [(0, .ref (fh_ad E k1)), (1, .int a2), (2, .int ((0 : Int32))), (3, .int ((0 : Int32)))]) rfl ?_
  refine go_fx (fun (r7 : Int32 → Int32 → fh_S → Option (Int32 × fh_S)) => ∀ (x4 : Int32) (x5 : Int32) (σ6 : fh_S), fh_Go E M 4 fh_vI 4 [(0, .ref (fh_ad E k1)), (1, .int a2), (2, .int x4), (3, .int x5)] [] σ6 (r7 x4 x5 σ6)) ?_ ?_ fh_fu ((0 : Int32)) ((0 : Int32)) σ3
  · intro x4 x5 σ6
    exact go_none
  · intro r7 hr7 x4 x5 σ6
    refine go_iload_n C 3 rfl rfl dX0_underSet_4 ?_
    refine go_aload_n C 0 rfl rfl dX0_underSet_5 ?_
    refine go_gi (ci := 0) (j := 9) C fh_in0 rfl (by decide) rfl q_46 dX0_underSet_6 (fun v8 => ?_)
    refine go_icmp_ge (tgt := 36) C dX0_underSet_9 rfl (fun _ => ?_) (fun _ => ?_)
    · refine go_iload_n C 2 rfl rfl dX0_underSet_36 ?_
      exact go_iret C Hr rfl dX0_underSet_37
    · refine go_aload_n C 0 rfl rfl dX0_underSet_12 ?_
      refine go_iload_n C 3 rfl rfl dX0_underSet_13 ?_
      refine go_callVI C (st := []) [.int x5] (m_X0_waySet E _ hok k1 x5 σ6) (fun _ h => fh_ob_ok h) rfl rfl ⟨q_329, q_318, q_319, q_2, q_320⟩ pd_X0_waySet rfl ⟨⟨Nat.le_of_ble_eq_true rfl, Nat.le_of_ble_eq_true rfl⟩, rfl, rfl⟩ (Nat.le_of_ble_eq_true rfl) dX0_underSet_14 (fun r10 σ9 => ?_)
      refine go_iload_n C 1 rfl rfl dX0_underSet_17 ?_
      refine go_callNI C (st := []) [.int r10, .int a2] (m_X4_isIn E _ hok r10 a2 σ9) rfl ⟨List.mem_of_getElem? (i := 7) rfl, q_355, q_1, q_356⟩ pd_X4_isIn rfl ⟨⟨Nat.le_of_ble_eq_true rfl, Nat.le_of_ble_eq_true rfl⟩, rfl, rfl⟩ (Nat.le_of_ble_eq_true rfl) dX0_underSet_18 (fun r12 σ11 => ?_)
      refine go_jn (fun (j15 : Int32 → fh_S → Option (Int32 × fh_S)) => ∀ (x13 : Int32) (σ14 : fh_S), fh_Go E M 4 fh_vI 30 [(0, .ref (fh_ad E k1)), (1, .int a2), (2, .int x13), (3, .int x5)] [] σ14 (j15 x13 σ14)) ?_ (fun j15 hj15 => ?_)
      · intro x13 σ14
        refine go_iinc C (x5 + 1) 3 [(3, .int (x5 + 1)), (0, .ref (fh_ad E k1)), (1, .int a2), (2, .int x13)] rfl rfl rfl (by decide) dX0_underSet_30 ?_
        refine go_goto C 4 dX0_underSet_33 rfl ?_
        refine go_lv [1, 2, 3, 0] (lv' := [(0, .ref (fh_ad E k1)), (1, .int a2), (2, .int x13), (3, .int (x5 + 1))]) rfl ?_
        exact hr7 x13 (x5 + 1) σ14
      refine go_if_eq (tgt := 30) C dX0_underSet_21 rfl (fun _ => ?_) (fun _ => ?_)
      · exact hj15 x4 σ11
      · refine go_iload_n C 2 rfl rfl dX0_underSet_24 ?_
        refine go_iconst C (1 : Int32) dX0_underSet_25 rfl ?_
        refine go_iload_n C 3 rfl rfl dX0_underSet_26 ?_
        refine go_ishl C dX0_underSet_27 ?_
        refine go_ior C dX0_underSet_28 ?_
        refine go_istore_n C [(2, .int (x4 ||| (((1 : Int32)) <<< (x5 &&& 31)))), (0, .ref (fh_ad E k1)), (1, .int a2), (3, .int x5)] rfl rfl (by decide) dX0_underSet_29 ?_
        refine go_lv [1, 2, 0, 3] (lv' := [(0, .ref (fh_ad E k1)), (1, .int a2), (2, .int (x4 ||| (((1 : Int32)) <<< (x5 &&& 31)))), (3, .int x5)]) rfl ?_
        exact hj15 (x4 ||| (((1 : Int32)) <<< (x5 &&& 31))) σ11
theorem m_X0_underSet (E : fh_E) (l : Launch) (hok : fh_ok E) (k1 : Nat) (a2 : Int32) (σ3 : fh_S) : fh_Met E l yX0_underSet cX0_underSet 4 ((some FieldType.int)) rm_X0_underSet fh_vI [.ref (fh_ad E k1), .int a2] σ3 (f_X0_underSet k1 a2 σ3) := fh_met hok (by decide +kernel) (Nat.le_of_ble_eq_true rfl) (fun M _ C Hr => g_X0_underSet C Hr k1 a2 σ3)
def f_X1_isDigit (a1 : Int32) (σ2 : fh_S) : Option (Int32 × fh_S) := if a1 < ((48 : Int32)) then fh_rz ((0 : Int32)) σ2 else if ((57 : Int32)) < a1 then fh_rz ((0 : Int32)) σ2 else fh_rz ((1 : Int32)) σ2
abbrev rm_X1_isDigit : Room := { frames := 0, cells := 0, slots := 0, locals := 0 }
theorem pd_X1_isDigit : yX1_isDigit.cls ≠ "java/lang/invoke/MethodHandle" ∧ yX1_isDigit.cls ≠ "java/lang/invoke/VarHandle" ∧ (parseMethodDescriptor yX1_isDigit.desc).map (fun d => d.parameters.length) = some 1 := by decide +kernel
theorem dX1_isDigit_0 : decode cX1_isDigit 0 = .ok (.iload_n 0, 1) := by decide +kernel
theorem dX1_isDigit_1 : decode cX1_isDigit 1 = .ok (.bipush 48, 2) := by decide +kernel
theorem dX1_isDigit_3 : decode cX1_isDigit 3 = .ok (.if_icmp .lt 13, 3) := by decide +kernel
theorem dX1_isDigit_6 : decode cX1_isDigit 6 = .ok (.iload_n 0, 1) := by decide +kernel
theorem dX1_isDigit_7 : decode cX1_isDigit 7 = .ok (.bipush 57, 2) := by decide +kernel
theorem dX1_isDigit_9 : decode cX1_isDigit 9 = .ok (.if_icmp .gt 7, 3) := by decide +kernel
theorem dX1_isDigit_12 : decode cX1_isDigit 12 = .ok (.iconst 1, 1) := by decide +kernel
theorem dX1_isDigit_13 : decode cX1_isDigit 13 = .ok (.goto 4, 3) := by decide +kernel
theorem dX1_isDigit_16 : decode cX1_isDigit 16 = .ok (.iconst 0, 1) := by decide +kernel
theorem dX1_isDigit_17 : decode cX1_isDigit 17 = .ok (.ireturn, 1) := by decide +kernel
set_option maxHeartbeats 4000000 in
set_option maxRecDepth 100000 in
theorem g_X1_isDigit {E : fh_E} {M : fh_M} (C : fh_Cx E M cX1_isDigit 1 RX1 ((some FieldType.boolean)) rm_X1_isDigit) (Hr : fh_Rt E M) (a1 : Int32) (σ2 : fh_S) : fh_Go E M 1 fh_vI 0 [(0, .int a1)] [] σ2 (f_X1_isDigit a1 σ2) := by
  have hok := fh_cok C
  refine go_iload_n C 0 rfl rfl dX1_isDigit_0 ?_
  refine go_bipush C (48 : Int32) dX1_isDigit_1 rfl ?_
  refine go_icmp_lt (tgt := 16) C dX1_isDigit_3 rfl (fun _ => ?_) (fun _ => ?_)
  · refine go_iconst C (0 : Int32) dX1_isDigit_16 rfl ?_
    exact go_zret C Hr dX1_isDigit_17
  · refine go_iload_n C 0 rfl rfl dX1_isDigit_6 ?_
    refine go_bipush C (57 : Int32) dX1_isDigit_7 rfl ?_
    refine go_icmp_gt (tgt := 16) C dX1_isDigit_9 rfl (fun _ => ?_) (fun _ => ?_)
    · refine go_iconst C (0 : Int32) dX1_isDigit_16 rfl ?_
      exact go_zret C Hr dX1_isDigit_17
    · refine go_iconst C (1 : Int32) dX1_isDigit_12 rfl ?_
      refine go_goto C 17 dX1_isDigit_13 rfl ?_
      exact go_zret C Hr dX1_isDigit_17
theorem m_X1_isDigit (E : fh_E) (l : Launch) (hok : fh_ok E) (a1 : Int32) (σ2 : fh_S) : fh_Met E l yX1_isDigit cX1_isDigit 1 ((some FieldType.boolean)) rm_X1_isDigit fh_vI [.int a1] σ2 (f_X1_isDigit a1 σ2) := fh_met hok (by decide +kernel) (Nat.le_of_ble_eq_true rfl) (fun M _ C Hr => g_X1_isDigit C Hr a1 σ2)
def f_X1_isLetter (a1 : Int32) (σ2 : fh_S) : Option (Int32 × fh_S) := if a1 < ((97 : Int32)) then fh_rz ((0 : Int32)) σ2 else if ((122 : Int32)) < a1 then fh_rz ((0 : Int32)) σ2 else fh_rz ((1 : Int32)) σ2
abbrev rm_X1_isLetter : Room := { frames := 0, cells := 0, slots := 0, locals := 0 }
theorem pd_X1_isLetter : yX1_isLetter.cls ≠ "java/lang/invoke/MethodHandle" ∧ yX1_isLetter.cls ≠ "java/lang/invoke/VarHandle" ∧ (parseMethodDescriptor yX1_isLetter.desc).map (fun d => d.parameters.length) = some 1 := by decide +kernel
theorem dX1_isLetter_0 : decode cX1_isLetter 0 = .ok (.iload_n 0, 1) := by decide +kernel
theorem dX1_isLetter_1 : decode cX1_isLetter 1 = .ok (.bipush 97, 2) := by decide +kernel
theorem dX1_isLetter_3 : decode cX1_isLetter 3 = .ok (.if_icmp .lt 13, 3) := by decide +kernel
theorem dX1_isLetter_6 : decode cX1_isLetter 6 = .ok (.iload_n 0, 1) := by decide +kernel
theorem dX1_isLetter_7 : decode cX1_isLetter 7 = .ok (.bipush 122, 2) := by decide +kernel
theorem dX1_isLetter_9 : decode cX1_isLetter 9 = .ok (.if_icmp .gt 7, 3) := by decide +kernel
theorem dX1_isLetter_12 : decode cX1_isLetter 12 = .ok (.iconst 1, 1) := by decide +kernel
theorem dX1_isLetter_13 : decode cX1_isLetter 13 = .ok (.goto 4, 3) := by decide +kernel
theorem dX1_isLetter_16 : decode cX1_isLetter 16 = .ok (.iconst 0, 1) := by decide +kernel
theorem dX1_isLetter_17 : decode cX1_isLetter 17 = .ok (.ireturn, 1) := by decide +kernel
set_option maxHeartbeats 4000000 in
set_option maxRecDepth 100000 in
theorem g_X1_isLetter {E : fh_E} {M : fh_M} (C : fh_Cx E M cX1_isLetter 1 RX1 ((some FieldType.boolean)) rm_X1_isLetter) (Hr : fh_Rt E M) (a1 : Int32) (σ2 : fh_S) : fh_Go E M 1 fh_vI 0 [(0, .int a1)] [] σ2 (f_X1_isLetter a1 σ2) := by
  have hok := fh_cok C
  refine go_iload_n C 0 rfl rfl dX1_isLetter_0 ?_
  refine go_bipush C (97 : Int32) dX1_isLetter_1 rfl ?_
  refine go_icmp_lt (tgt := 16) C dX1_isLetter_3 rfl (fun _ => ?_) (fun _ => ?_)
  · refine go_iconst C (0 : Int32) dX1_isLetter_16 rfl ?_
    exact go_zret C Hr dX1_isLetter_17
  · refine go_iload_n C 0 rfl rfl dX1_isLetter_6 ?_
    refine go_bipush C (122 : Int32) dX1_isLetter_7 rfl ?_
    refine go_icmp_gt (tgt := 16) C dX1_isLetter_9 rfl (fun _ => ?_) (fun _ => ?_)
    · refine go_iconst C (0 : Int32) dX1_isLetter_16 rfl ?_
      exact go_zret C Hr dX1_isLetter_17
    · refine go_iconst C (1 : Int32) dX1_isLetter_12 rfl ?_
      refine go_goto C 17 dX1_isLetter_13 rfl ?_
      exact go_zret C Hr dX1_isLetter_17
theorem m_X1_isLetter (E : fh_E) (l : Launch) (hok : fh_ok E) (a1 : Int32) (σ2 : fh_S) : fh_Met E l yX1_isLetter cX1_isLetter 1 ((some FieldType.boolean)) rm_X1_isLetter fh_vI [.int a1] σ2 (f_X1_isLetter a1 σ2) := fh_met hok (by decide +kernel) (Nat.le_of_ble_eq_true rfl) (fun M _ C Hr => g_X1_isLetter C Hr a1 σ2)
def f_X3_byteAt (k1 : Nat) (a2 : Int32) (σ3 : fh_S) : Option (Int32 × fh_S) := fh_ob 3 k1 (if a2 < 0 then some ((-1 : Int32), σ3) else (fh_gi σ3 3 k1 1).bind fun v4 => if v4 ≤ a2 then some ((-1 : Int32), σ3) else (fh_gr 3 k1 0).bind fun k5 => (fh_ld σ3 k5 a2).bind fun v6 => some (v6, σ3))
abbrev rm_X3_byteAt : Room := { frames := 0, cells := 0, slots := 0, locals := 0 }
theorem pd_X3_byteAt : yX3_byteAt.cls ≠ "java/lang/invoke/MethodHandle" ∧ yX3_byteAt.cls ≠ "java/lang/invoke/VarHandle" ∧ (parseMethodDescriptor yX3_byteAt.desc).map (fun d => d.parameters.length) = some 1 := by decide +kernel
theorem dX3_byteAt_0 : decode cX3_byteAt 0 = .ok (.iload_n 1, 1) := by decide +kernel
theorem dX3_byteAt_1 : decode cX3_byteAt 1 = .ok (.ifCond .lt 20, 3) := by decide +kernel
theorem dX3_byteAt_4 : decode cX3_byteAt 4 = .ok (.iload_n 1, 1) := by decide +kernel
theorem dX3_byteAt_5 : decode cX3_byteAt 5 = .ok (.aload_n 0, 1) := by decide +kernel
theorem dX3_byteAt_6 : decode cX3_byteAt 6 = .ok (.getfield 15, 3) := by decide +kernel
theorem dX3_byteAt_9 : decode cX3_byteAt 9 = .ok (.if_icmp .ge 12, 3) := by decide +kernel
theorem dX3_byteAt_12 : decode cX3_byteAt 12 = .ok (.aload_n 0, 1) := by decide +kernel
theorem dX3_byteAt_13 : decode cX3_byteAt 13 = .ok (.getfield 9, 3) := by decide +kernel
theorem dX3_byteAt_16 : decode cX3_byteAt 16 = .ok (.iload_n 1, 1) := by decide +kernel
theorem dX3_byteAt_17 : decode cX3_byteAt 17 = .ok (.iaload, 1) := by decide +kernel
theorem dX3_byteAt_18 : decode cX3_byteAt 18 = .ok (.goto 4, 3) := by decide +kernel
theorem dX3_byteAt_21 : decode cX3_byteAt 21 = .ok (.iconst (-1), 1) := by decide +kernel
theorem dX3_byteAt_22 : decode cX3_byteAt 22 = .ok (.ireturn, 1) := by decide +kernel
set_option maxHeartbeats 4000000 in
set_option maxRecDepth 100000 in
theorem g_X3_byteAt {E : fh_E} {M : fh_M} (C : fh_Cx E M cX3_byteAt 2 RX3 ((some FieldType.int)) rm_X3_byteAt) (Hr : fh_Rt E M) (k1 : Nat) (a2 : Int32) (σ3 : fh_S) : fh_Go E M 2 fh_vI 0 [(0, .ref (fh_ad E k1)), (1, .int a2)] [] σ3 (f_X3_byteAt k1 a2 σ3) := by
  have hok := fh_cok C
  refine go_ob ?_
  refine go_iload_n C 1 rfl rfl dX3_byteAt_0 ?_
  refine go_if_lt (tgt := 21) C dX3_byteAt_1 rfl (fun _ => ?_) (fun _ => ?_)
  · refine go_iconst C (-1 : Int32) dX3_byteAt_21 rfl ?_
    exact go_iret C Hr rfl dX3_byteAt_22
  · refine go_iload_n C 1 rfl rfl dX3_byteAt_4 ?_
    refine go_aload_n C 0 rfl rfl dX3_byteAt_5 ?_
    refine go_gi (ci := 3) (j := 1) C fh_in3 rfl (by decide) rfl q_86 dX3_byteAt_6 (fun v4 => ?_)
    refine go_icmp_ge (tgt := 21) C dX3_byteAt_9 rfl (fun _ => ?_) (fun _ => ?_)
    · refine go_iconst C (-1 : Int32) dX3_byteAt_21 rfl ?_
      exact go_iret C Hr rfl dX3_byteAt_22
    · refine go_aload_n C 0 rfl rfl dX3_byteAt_12 ?_
      refine go_gr (ci := 3) (j := 0) C fh_in3 rfl (by decide) rfl q_85 dX3_byteAt_13 (fun k5 => ?_)
      refine go_iload_n C 1 rfl rfl dX3_byteAt_16 ?_
      refine go_iald C dX3_byteAt_17 (fun v6 => ?_)
      refine go_goto C 22 dX3_byteAt_18 rfl ?_
      exact go_iret C Hr rfl dX3_byteAt_22
theorem m_X3_byteAt (E : fh_E) (l : Launch) (hok : fh_ok E) (k1 : Nat) (a2 : Int32) (σ3 : fh_S) : fh_Met E l yX3_byteAt cX3_byteAt 2 ((some FieldType.int)) rm_X3_byteAt fh_vI [.ref (fh_ad E k1), .int a2] σ3 (f_X3_byteAt k1 a2 σ3) := fh_met hok (by decide +kernel) (Nat.le_of_ble_eq_true rfl) (fun M _ C Hr => g_X3_byteAt C Hr k1 a2 σ3)
def f_X1_readDigits_B5 (k1 : Nat) (r5 : fh_S → Option (Unit × fh_S)) : fh_S → Option (Unit × fh_S) := fun σ4 => (fh_gi σ4 1 k1 3).bind fun v6 => if ((120 : Int32)) ≤ v6 then some ((), σ4) else (fh_gr 1 k1 0).bind fun k7 => (fh_gi σ4 1 k1 3).bind fun v8 => fh_cb (f_X3_byteAt k7 v8 σ4) fun r10 σ9 => fh_cb (f_X1_isDigit r10 σ9) fun r12 σ11 => if r12 = 0 then some ((), σ11) else (fh_gi σ11 1 k1 4).bind fun v13 => (fh_gr 1 k1 0).bind fun k14 => (fh_gi σ11 1 k1 3).bind fun v15 => fh_cb (f_X3_byteAt k14 v15 σ11) fun r17 σ16 => fh_cb (f_J9_min_7cf53 ((1000 : Int32)) (((((10 : Int32)) * v13) + r17) - ((48 : Int32))) σ16) fun r19 σ18 => (fh_pf σ18 1 k1 4 r19).bind fun σ20 => (fh_gi σ20 1 k1 3).bind fun v21 => (fh_pf σ20 1 k1 3 (v21 + ((1 : Int32)))).bind fun σ22 => r5 σ22
def f_X1_readDigits (k1 : Nat) (σ2 : fh_S) : Option (Unit × fh_S) := fh_ob 1 k1 ((fh_pf σ2 1 k1 4 ((0 : Int32))).bind fun σ3 => fh_fx (ρ := fh_S → Option (Unit × fh_S)) (fun _ => none) (f_X1_readDigits_B5 k1) fh_fu σ3)
abbrev rm_X1_readDigits : Room := { frames := 1, cells := 0, slots := 0, locals := 21 }
theorem pd_X1_readDigits : yX1_readDigits.cls ≠ "java/lang/invoke/MethodHandle" ∧ yX1_readDigits.cls ≠ "java/lang/invoke/VarHandle" ∧ (parseMethodDescriptor yX1_readDigits.desc).map (fun d => d.parameters.length) = some 0 := by decide +kernel
theorem dX1_readDigits_0 : decode cX1_readDigits 0 = .ok (.aload_n 0, 1) := by decide +kernel
theorem dX1_readDigits_1 : decode cX1_readDigits 1 = .ok (.iconst 0, 1) := by decide +kernel
theorem dX1_readDigits_2 : decode cX1_readDigits 2 = .ok (.putfield 106, 3) := by decide +kernel
theorem dX1_readDigits_5 : decode cX1_readDigits 5 = .ok (.aload_n 0, 1) := by decide +kernel
theorem dX1_readDigits_6 : decode cX1_readDigits 6 = .ok (.getfield 19, 3) := by decide +kernel
theorem dX1_readDigits_9 : decode cX1_readDigits 9 = .ok (.bipush 120, 2) := by decide +kernel
theorem dX1_readDigits_11 : decode cX1_readDigits 11 = .ok (.if_icmp .ge 65, 3) := by decide +kernel
theorem dX1_readDigits_14 : decode cX1_readDigits 14 = .ok (.aload_n 0, 1) := by decide +kernel
theorem dX1_readDigits_15 : decode cX1_readDigits 15 = .ok (.getfield 9, 3) := by decide +kernel
theorem dX1_readDigits_18 : decode cX1_readDigits 18 = .ok (.aload_n 0, 1) := by decide +kernel
theorem dX1_readDigits_19 : decode cX1_readDigits 19 = .ok (.getfield 19, 3) := by decide +kernel
theorem dX1_readDigits_22 : decode cX1_readDigits 22 = .ok (.invokevirtual 101, 3) := by decide +kernel
theorem dX1_readDigits_25 : decode cX1_readDigits 25 = .ok (.invokestatic 145, 3) := by decide +kernel
theorem dX1_readDigits_28 : decode cX1_readDigits 28 = .ok (.ifCond .eq 48, 3) := by decide +kernel
theorem dX1_readDigits_31 : decode cX1_readDigits 31 = .ok (.aload_n 0, 1) := by decide +kernel
theorem dX1_readDigits_32 : decode cX1_readDigits 32 = .ok (.sipush 1000, 3) := by decide +kernel
theorem dX1_readDigits_35 : decode cX1_readDigits 35 = .ok (.bipush 10, 2) := by decide +kernel
theorem dX1_readDigits_37 : decode cX1_readDigits 37 = .ok (.aload_n 0, 1) := by decide +kernel
theorem dX1_readDigits_38 : decode cX1_readDigits 38 = .ok (.getfield 106, 3) := by decide +kernel
theorem dX1_readDigits_41 : decode cX1_readDigits 41 = .ok (.imul, 1) := by decide +kernel
theorem dX1_readDigits_42 : decode cX1_readDigits 42 = .ok (.aload_n 0, 1) := by decide +kernel
theorem dX1_readDigits_43 : decode cX1_readDigits 43 = .ok (.getfield 9, 3) := by decide +kernel
theorem dX1_readDigits_46 : decode cX1_readDigits 46 = .ok (.aload_n 0, 1) := by decide +kernel
theorem dX1_readDigits_47 : decode cX1_readDigits 47 = .ok (.getfield 19, 3) := by decide +kernel
theorem dX1_readDigits_50 : decode cX1_readDigits 50 = .ok (.invokevirtual 101, 3) := by decide +kernel
theorem dX1_readDigits_53 : decode cX1_readDigits 53 = .ok (.iadd, 1) := by decide +kernel
theorem dX1_readDigits_54 : decode cX1_readDigits 54 = .ok (.bipush 48, 2) := by decide +kernel
theorem dX1_readDigits_56 : decode cX1_readDigits 56 = .ok (.isub, 1) := by decide +kernel
theorem dX1_readDigits_57 : decode cX1_readDigits 57 = .ok (.invokestatic 151, 3) := by decide +kernel
theorem dX1_readDigits_60 : decode cX1_readDigits 60 = .ok (.putfield 106, 3) := by decide +kernel
theorem dX1_readDigits_63 : decode cX1_readDigits 63 = .ok (.aload_n 0, 1) := by decide +kernel
theorem dX1_readDigits_64 : decode cX1_readDigits 64 = .ok (.dup, 1) := by decide +kernel
theorem dX1_readDigits_65 : decode cX1_readDigits 65 = .ok (.getfield 19, 3) := by decide +kernel
theorem dX1_readDigits_68 : decode cX1_readDigits 68 = .ok (.iconst 1, 1) := by decide +kernel
theorem dX1_readDigits_69 : decode cX1_readDigits 69 = .ok (.iadd, 1) := by decide +kernel
theorem dX1_readDigits_70 : decode cX1_readDigits 70 = .ok (.putfield 19, 3) := by decide +kernel
theorem dX1_readDigits_73 : decode cX1_readDigits 73 = .ok (.goto (-68), 3) := by decide +kernel
theorem dX1_readDigits_76 : decode cX1_readDigits 76 = .ok (.return_, 1) := by decide +kernel
set_option maxHeartbeats 4000000 in
set_option maxRecDepth 100000 in
theorem g_X1_readDigits {E : fh_E} {M : fh_M} (C : fh_Cx E M cX1_readDigits 1 RX1 (none) rm_X1_readDigits) (Hr : fh_Rt E M) (k1 : Nat) (σ2 : fh_S) : fh_Go E M 1 fh_vU 0 [(0, .ref (fh_ad E k1))] [] σ2 (f_X1_readDigits k1 σ2) := by
  have hok := fh_cok C
  refine go_ob ?_
  refine go_aload_n C 0 rfl rfl dX1_readDigits_0 ?_
  refine go_iconst C (0 : Int32) dX1_readDigits_1 rfl ?_
  refine go_pf (ci := 1) (j := 4) C tyX1 tyX1_ok nmX1 fh_in1 rfl (by decide) rfl q_103 rfl rfl dX1_readDigits_2 (fun σ3 => ?_)
  refine go_fx (fun (r5 : fh_S → Option (Unit × fh_S)) => ∀  (σ4 : fh_S), fh_Go E M 1 fh_vU 5 [(0, .ref (fh_ad E k1))] [] σ4 (r5 σ4)) ?_ ?_ fh_fu σ3
  · intro σ4
    exact go_none
  · intro r5 hr5 σ4
    refine go_aload_n C 0 rfl rfl dX1_readDigits_5 ?_
    refine go_gi (ci := 1) (j := 3) C fh_in1 rfl (by decide) rfl q_102 dX1_readDigits_6 (fun v6 => ?_)
    refine go_bipush C (120 : Int32) dX1_readDigits_9 rfl ?_
    refine go_icmp_ge (tgt := 76) C dX1_readDigits_11 rfl (fun _ => ?_) (fun _ => ?_)
    · exact go_vret C Hr rfl dX1_readDigits_76
    · refine go_aload_n C 0 rfl rfl dX1_readDigits_14 ?_
      refine go_gr (ci := 1) (j := 0) C fh_in1 rfl (by decide) rfl q_99 dX1_readDigits_15 (fun k7 => ?_)
      refine go_aload_n C 0 rfl rfl dX1_readDigits_18 ?_
      refine go_gi (ci := 1) (j := 3) C fh_in1 rfl (by decide) rfl q_102 dX1_readDigits_19 (fun v8 => ?_)
      refine go_callVI C (st := []) [.int v8] (m_X3_byteAt E _ hok k7 v8 σ4) (fun _ h => fh_ob_ok h) rfl rfl ⟨q_538, q_539, q_540, q_3, q_541⟩ pd_X3_byteAt rfl ⟨⟨Nat.le_of_ble_eq_true rfl, Nat.le_of_ble_eq_true rfl⟩, rfl, rfl⟩ (Nat.le_of_ble_eq_true rfl) dX1_readDigits_22 (fun r10 σ9 => ?_)
      refine go_callSI C (st := []) [.int r10] (m_X1_isDigit E _ hok r10 σ9) rfl ⟨q_549, q_550, q_4, q_551⟩ pd_X1_isDigit rfl ⟨⟨Nat.le_of_ble_eq_true rfl, Nat.le_of_ble_eq_true rfl⟩, rfl, rfl⟩ (Nat.le_of_ble_eq_true rfl) dX1_readDigits_25 (fun r12 σ11 => ?_)
      refine go_if_eq (tgt := 76) C dX1_readDigits_28 rfl (fun _ => ?_) (fun _ => ?_)
      · exact go_vret C Hr rfl dX1_readDigits_76
      · refine go_aload_n C 0 rfl rfl dX1_readDigits_31 ?_
        refine go_sipush C (1000 : Int32) dX1_readDigits_32 rfl ?_
        refine go_bipush C (10 : Int32) dX1_readDigits_35 rfl ?_
        refine go_aload_n C 0 rfl rfl dX1_readDigits_37 ?_
        refine go_gi (ci := 1) (j := 4) C fh_in1 rfl (by decide) rfl q_103 dX1_readDigits_38 (fun v13 => ?_)
        refine go_imul C dX1_readDigits_41 ?_
        refine go_aload_n C 0 rfl rfl dX1_readDigits_42 ?_
        refine go_gr (ci := 1) (j := 0) C fh_in1 rfl (by decide) rfl q_99 dX1_readDigits_43 (fun k14 => ?_)
        refine go_aload_n C 0 rfl rfl dX1_readDigits_46 ?_
        refine go_gi (ci := 1) (j := 3) C fh_in1 rfl (by decide) rfl q_102 dX1_readDigits_47 (fun v15 => ?_)
        refine go_callVI C (st := [.int (((10 : Int32)) * v13), .int ((1000 : Int32)), .ref (fh_ad E k1)]) [.int v15] (m_X3_byteAt E _ hok k14 v15 σ11) (fun _ h => fh_ob_ok h) rfl rfl ⟨q_538, q_539, q_540, q_3, q_541⟩ pd_X3_byteAt rfl ⟨⟨Nat.le_of_ble_eq_true rfl, Nat.le_of_ble_eq_true rfl⟩, rfl, rfl⟩ (Nat.le_of_ble_eq_true rfl) dX1_readDigits_50 (fun r17 σ16 => ?_)
        refine go_iadd C dX1_readDigits_53 ?_
        refine go_bipush C (48 : Int32) dX1_readDigits_54 rfl ?_
        refine go_isub C dX1_readDigits_56 ?_
        refine go_callSI C (st := [.ref (fh_ad E k1)]) [.int ((1000 : Int32)), .int (((((10 : Int32)) * v13) + r17) - ((48 : Int32)))] (m_J9_min_7cf53 E _ hok ((1000 : Int32)) (((((10 : Int32)) * v13) + r17) - ((48 : Int32))) σ16) rfl ⟨q_556, q_190, q_7, q_191⟩ pd_J9_min_7cf53 rfl ⟨⟨Nat.le_of_ble_eq_true rfl, Nat.le_of_ble_eq_true rfl⟩, rfl, rfl⟩ (Nat.le_of_ble_eq_true rfl) dX1_readDigits_57 (fun r19 σ18 => ?_)
        refine go_pf (ci := 1) (j := 4) C tyX1 tyX1_ok nmX1 fh_in1 rfl (by decide) rfl q_103 rfl rfl dX1_readDigits_60 (fun σ20 => ?_)
        refine go_aload_n C 0 rfl rfl dX1_readDigits_63 ?_
        refine go_dup C rfl dX1_readDigits_64 ?_
        refine go_gi (ci := 1) (j := 3) C fh_in1 rfl (by decide) rfl q_102 dX1_readDigits_65 (fun v21 => ?_)
        refine go_iconst C (1 : Int32) dX1_readDigits_68 rfl ?_
        refine go_iadd C dX1_readDigits_69 ?_
        refine go_pf (ci := 1) (j := 3) C tyX1 tyX1_ok nmX1 fh_in1 rfl (by decide) rfl q_102 rfl rfl dX1_readDigits_70 (fun σ22 => ?_)
        refine go_goto C 5 dX1_readDigits_73 rfl ?_
        exact hr5 σ22
theorem m_X1_readDigits (E : fh_E) (l : Launch) (hok : fh_ok E) (k1 : Nat) (σ2 : fh_S) : fh_Met E l yX1_readDigits cX1_readDigits 1 (none) rm_X1_readDigits fh_vU [.ref (fh_ad E k1)] σ2 (f_X1_readDigits k1 σ2) := fh_met hok (by decide +kernel) (Nat.le_of_ble_eq_true rfl) (fun M _ C Hr => g_X1_readDigits C Hr k1 σ2)
def f_X1_readLetters_B0 (k1 : Nat) (r4 : fh_S → Option (Unit × fh_S)) : fh_S → Option (Unit × fh_S) := fun σ3 => (fh_gi σ3 1 k1 3).bind fun v5 => if ((120 : Int32)) ≤ v5 then some ((), σ3) else (fh_gr 1 k1 0).bind fun k6 => (fh_gi σ3 1 k1 3).bind fun v7 => fh_cb (f_X3_byteAt k6 v7 σ3) fun r9 σ8 => fh_cb (f_X1_isLetter r9 σ8) fun r11 σ10 => if r11 = 0 then some ((), σ10) else (fh_gi σ10 1 k1 3).bind fun v12 => (fh_pf σ10 1 k1 3 (v12 + ((1 : Int32)))).bind fun σ13 => r4 σ13
def f_X1_readLetters (k1 : Nat) (σ2 : fh_S) : Option (Unit × fh_S) := fh_ob 1 k1 (fh_fx (ρ := fh_S → Option (Unit × fh_S)) (fun _ => none) (f_X1_readLetters_B0 k1) fh_fu σ2)
abbrev rm_X1_readLetters : Room := { frames := 1, cells := 0, slots := 0, locals := 21 }
theorem pd_X1_readLetters : yX1_readLetters.cls ≠ "java/lang/invoke/MethodHandle" ∧ yX1_readLetters.cls ≠ "java/lang/invoke/VarHandle" ∧ (parseMethodDescriptor yX1_readLetters.desc).map (fun d => d.parameters.length) = some 0 := by decide +kernel
theorem dX1_readLetters_0 : decode cX1_readLetters 0 = .ok (.aload_n 0, 1) := by decide +kernel
theorem dX1_readLetters_1 : decode cX1_readLetters 1 = .ok (.getfield 19, 3) := by decide +kernel
theorem dX1_readLetters_4 : decode cX1_readLetters 4 = .ok (.bipush 120, 2) := by decide +kernel
theorem dX1_readLetters_6 : decode cX1_readLetters 6 = .ok (.if_icmp .ge 33, 3) := by decide +kernel
theorem dX1_readLetters_9 : decode cX1_readLetters 9 = .ok (.aload_n 0, 1) := by decide +kernel
theorem dX1_readLetters_10 : decode cX1_readLetters 10 = .ok (.getfield 9, 3) := by decide +kernel
theorem dX1_readLetters_13 : decode cX1_readLetters 13 = .ok (.aload_n 0, 1) := by decide +kernel
theorem dX1_readLetters_14 : decode cX1_readLetters 14 = .ok (.getfield 19, 3) := by decide +kernel
theorem dX1_readLetters_17 : decode cX1_readLetters 17 = .ok (.invokevirtual 101, 3) := by decide +kernel
theorem dX1_readLetters_20 : decode cX1_readLetters 20 = .ok (.invokestatic 139, 3) := by decide +kernel
theorem dX1_readLetters_23 : decode cX1_readLetters 23 = .ok (.ifCond .eq 16, 3) := by decide +kernel
theorem dX1_readLetters_26 : decode cX1_readLetters 26 = .ok (.aload_n 0, 1) := by decide +kernel
theorem dX1_readLetters_27 : decode cX1_readLetters 27 = .ok (.dup, 1) := by decide +kernel
theorem dX1_readLetters_28 : decode cX1_readLetters 28 = .ok (.getfield 19, 3) := by decide +kernel
theorem dX1_readLetters_31 : decode cX1_readLetters 31 = .ok (.iconst 1, 1) := by decide +kernel
theorem dX1_readLetters_32 : decode cX1_readLetters 32 = .ok (.iadd, 1) := by decide +kernel
theorem dX1_readLetters_33 : decode cX1_readLetters 33 = .ok (.putfield 19, 3) := by decide +kernel
theorem dX1_readLetters_36 : decode cX1_readLetters 36 = .ok (.goto (-36), 3) := by decide +kernel
theorem dX1_readLetters_39 : decode cX1_readLetters 39 = .ok (.return_, 1) := by decide +kernel
set_option maxHeartbeats 4000000 in
set_option maxRecDepth 100000 in
theorem g_X1_readLetters {E : fh_E} {M : fh_M} (C : fh_Cx E M cX1_readLetters 1 RX1 (none) rm_X1_readLetters) (Hr : fh_Rt E M) (k1 : Nat) (σ2 : fh_S) : fh_Go E M 1 fh_vU 0 [(0, .ref (fh_ad E k1))] [] σ2 (f_X1_readLetters k1 σ2) := by
  have hok := fh_cok C
  refine go_ob ?_
  refine go_fx (fun (r4 : fh_S → Option (Unit × fh_S)) => ∀  (σ3 : fh_S), fh_Go E M 1 fh_vU 0 [(0, .ref (fh_ad E k1))] [] σ3 (r4 σ3)) ?_ ?_ fh_fu σ2
  · intro σ3
    exact go_none
  · intro r4 hr4 σ3
    refine go_aload_n C 0 rfl rfl dX1_readLetters_0 ?_
    refine go_gi (ci := 1) (j := 3) C fh_in1 rfl (by decide) rfl q_102 dX1_readLetters_1 (fun v5 => ?_)
    refine go_bipush C (120 : Int32) dX1_readLetters_4 rfl ?_
    refine go_icmp_ge (tgt := 39) C dX1_readLetters_6 rfl (fun _ => ?_) (fun _ => ?_)
    · exact go_vret C Hr rfl dX1_readLetters_39
    · refine go_aload_n C 0 rfl rfl dX1_readLetters_9 ?_
      refine go_gr (ci := 1) (j := 0) C fh_in1 rfl (by decide) rfl q_99 dX1_readLetters_10 (fun k6 => ?_)
      refine go_aload_n C 0 rfl rfl dX1_readLetters_13 ?_
      refine go_gi (ci := 1) (j := 3) C fh_in1 rfl (by decide) rfl q_102 dX1_readLetters_14 (fun v7 => ?_)
      refine go_callVI C (st := []) [.int v7] (m_X3_byteAt E _ hok k6 v7 σ3) (fun _ h => fh_ob_ok h) rfl rfl ⟨q_538, q_539, q_540, q_3, q_541⟩ pd_X3_byteAt rfl ⟨⟨Nat.le_of_ble_eq_true rfl, Nat.le_of_ble_eq_true rfl⟩, rfl, rfl⟩ (Nat.le_of_ble_eq_true rfl) dX1_readLetters_17 (fun r9 σ8 => ?_)
      refine go_callSI C (st := []) [.int r9] (m_X1_isLetter E _ hok r9 σ8) rfl ⟨q_542, q_543, q_4, q_544⟩ pd_X1_isLetter rfl ⟨⟨Nat.le_of_ble_eq_true rfl, Nat.le_of_ble_eq_true rfl⟩, rfl, rfl⟩ (Nat.le_of_ble_eq_true rfl) dX1_readLetters_20 (fun r11 σ10 => ?_)
      refine go_if_eq (tgt := 39) C dX1_readLetters_23 rfl (fun _ => ?_) (fun _ => ?_)
      · exact go_vret C Hr rfl dX1_readLetters_39
      · refine go_aload_n C 0 rfl rfl dX1_readLetters_26 ?_
        refine go_dup C rfl dX1_readLetters_27 ?_
        refine go_gi (ci := 1) (j := 3) C fh_in1 rfl (by decide) rfl q_102 dX1_readLetters_28 (fun v12 => ?_)
        refine go_iconst C (1 : Int32) dX1_readLetters_31 rfl ?_
        refine go_iadd C dX1_readLetters_32 ?_
        refine go_pf (ci := 1) (j := 3) C tyX1 tyX1_ok nmX1 fh_in1 rfl (by decide) rfl q_102 rfl rfl dX1_readLetters_33 (fun σ13 => ?_)
        refine go_goto C 0 dX1_readLetters_36 rfl ?_
        exact hr4 σ13
theorem m_X1_readLetters (E : fh_E) (l : Launch) (hok : fh_ok E) (k1 : Nat) (σ2 : fh_S) : fh_Met E l yX1_readLetters cX1_readLetters 1 (none) rm_X1_readLetters fh_vU [.ref (fh_ad E k1)] σ2 (f_X1_readLetters k1 σ2) := fh_met hok (by decide +kernel) (Nat.le_of_ble_eq_true rfl) (fun M _ C Hr => g_X1_readLetters C Hr k1 σ2)
def f_X1_findToken_J46 (k1 : Nat) : fh_S → Option (Unit × fh_S) := fun σ8 => (fh_gi σ8 1 k1 2).bind fun v9 => (fh_pf σ8 1 k1 3 v9).bind fun σ10 => (fh_gr 1 k1 0).bind fun k11 => (fh_gi σ10 1 k1 2).bind fun v12 => fh_cb (f_X3_byteAt k11 v12 σ10) fun r14 σ13 => if 0 ≤ r14 then fh_cb (f_X1_isLetter r14 σ13) fun r16 σ15 => if r16 = 0 then fh_cb (f_X1_isDigit r14 σ15) fun r18 σ17 => if r18 = 0 then (fh_pf σ17 1 k1 1 ((3 : Int32))).bind fun σ19 => (fh_gi σ19 1 k1 3).bind fun v20 => (fh_pf σ19 1 k1 3 (v20 + ((1 : Int32)))).bind fun σ21 => some ((), σ21) else (fh_pf σ17 1 k1 1 ((2 : Int32))).bind fun σ22 => fh_cb (f_X1_readDigits k1 σ22) fun _ σ23 => some ((), σ23) else (fh_pf σ15 1 k1 1 ((1 : Int32))).bind fun σ24 => fh_cb (f_X1_readLetters k1 σ24) fun _ σ25 => some ((), σ25) else (fh_pf σ13 1 k1 1 ((0 : Int32))).bind fun σ26 => some ((), σ26)
def f_X1_findToken_B8 (k1 : Nat) (r6 : fh_S → Option (Unit × fh_S)) : fh_S → Option (Unit × fh_S) := fun σ5 => (fh_gi σ5 1 k1 2).bind fun v7 => fh_jn (f_X1_findToken_J46 k1) (fun j27 => if ((120 : Int32)) ≤ v7 then j27 σ5 else (fh_gr 1 k1 0).bind fun k28 => (fh_gi σ5 1 k1 2).bind fun v29 => fh_cb (f_X3_byteAt k28 v29 σ5) fun r31 σ30 => if r31 = ((32 : Int32)) then (fh_gi σ30 1 k1 2).bind fun v32 => (fh_pf σ30 1 k1 2 (v32 + ((1 : Int32)))).bind fun σ33 => r6 σ33 else j27 σ30)
def f_X1_findToken (k1 : Nat) (σ2 : fh_S) : Option (Unit × fh_S) := fh_ob 1 k1 ((fh_gi σ2 1 k1 3).bind fun v3 => (fh_pf σ2 1 k1 2 v3).bind fun σ4 => fh_fx (ρ := fh_S → Option (Unit × fh_S)) (fun _ => none) (f_X1_findToken_B8 k1) fh_fu σ4)
abbrev rm_X1_findToken : Room := { frames := 2, cells := 0, slots := 0, locals := 41 }
theorem pd_X1_findToken : yX1_findToken.cls ≠ "java/lang/invoke/MethodHandle" ∧ yX1_findToken.cls ≠ "java/lang/invoke/VarHandle" ∧ (parseMethodDescriptor yX1_findToken.desc).map (fun d => d.parameters.length) = some 0 := by decide +kernel
theorem dX1_findToken_0 : decode cX1_findToken 0 = .ok (.aload_n 0, 1) := by decide +kernel
theorem dX1_findToken_1 : decode cX1_findToken 1 = .ok (.aload_n 0, 1) := by decide +kernel
theorem dX1_findToken_2 : decode cX1_findToken 2 = .ok (.getfield 19, 3) := by decide +kernel
theorem dX1_findToken_5 : decode cX1_findToken 5 = .ok (.putfield 95, 3) := by decide +kernel
theorem dX1_findToken_8 : decode cX1_findToken 8 = .ok (.aload_n 0, 1) := by decide +kernel
theorem dX1_findToken_9 : decode cX1_findToken 9 = .ok (.getfield 95, 3) := by decide +kernel
theorem dX1_findToken_12 : decode cX1_findToken 12 = .ok (.bipush 120, 2) := by decide +kernel
theorem dX1_findToken_14 : decode cX1_findToken 14 = .ok (.if_icmp .ge 32, 3) := by decide +kernel
theorem dX1_findToken_17 : decode cX1_findToken 17 = .ok (.aload_n 0, 1) := by decide +kernel
theorem dX1_findToken_18 : decode cX1_findToken 18 = .ok (.getfield 9, 3) := by decide +kernel
theorem dX1_findToken_21 : decode cX1_findToken 21 = .ok (.aload_n 0, 1) := by decide +kernel
theorem dX1_findToken_22 : decode cX1_findToken 22 = .ok (.getfield 95, 3) := by decide +kernel
theorem dX1_findToken_25 : decode cX1_findToken 25 = .ok (.invokevirtual 101, 3) := by decide +kernel
theorem dX1_findToken_28 : decode cX1_findToken 28 = .ok (.bipush 32, 2) := by decide +kernel
theorem dX1_findToken_30 : decode cX1_findToken 30 = .ok (.if_icmp .ne 16, 3) := by decide +kernel
theorem dX1_findToken_33 : decode cX1_findToken 33 = .ok (.aload_n 0, 1) := by decide +kernel
theorem dX1_findToken_34 : decode cX1_findToken 34 = .ok (.dup, 1) := by decide +kernel
theorem dX1_findToken_35 : decode cX1_findToken 35 = .ok (.getfield 95, 3) := by decide +kernel
theorem dX1_findToken_38 : decode cX1_findToken 38 = .ok (.iconst 1, 1) := by decide +kernel
theorem dX1_findToken_39 : decode cX1_findToken 39 = .ok (.iadd, 1) := by decide +kernel
theorem dX1_findToken_40 : decode cX1_findToken 40 = .ok (.putfield 95, 3) := by decide +kernel
theorem dX1_findToken_43 : decode cX1_findToken 43 = .ok (.goto (-35), 3) := by decide +kernel
theorem dX1_findToken_46 : decode cX1_findToken 46 = .ok (.aload_n 0, 1) := by decide +kernel
theorem dX1_findToken_47 : decode cX1_findToken 47 = .ok (.aload_n 0, 1) := by decide +kernel
theorem dX1_findToken_48 : decode cX1_findToken 48 = .ok (.getfield 95, 3) := by decide +kernel
theorem dX1_findToken_51 : decode cX1_findToken 51 = .ok (.putfield 19, 3) := by decide +kernel
theorem dX1_findToken_54 : decode cX1_findToken 54 = .ok (.aload_n 0, 1) := by decide +kernel
theorem dX1_findToken_55 : decode cX1_findToken 55 = .ok (.getfield 9, 3) := by decide +kernel
theorem dX1_findToken_58 : decode cX1_findToken 58 = .ok (.aload_n 0, 1) := by decide +kernel
theorem dX1_findToken_59 : decode cX1_findToken 59 = .ok (.getfield 95, 3) := by decide +kernel
theorem dX1_findToken_62 : decode cX1_findToken 62 = .ok (.invokevirtual 101, 3) := by decide +kernel
theorem dX1_findToken_65 : decode cX1_findToken 65 = .ok (.istore_n 1, 1) := by decide +kernel
theorem dX1_findToken_66 : decode cX1_findToken 66 = .ok (.iload_n 1, 1) := by decide +kernel
theorem dX1_findToken_67 : decode cX1_findToken 67 = .ok (.ifCond .ge 11, 3) := by decide +kernel
theorem dX1_findToken_70 : decode cX1_findToken 70 = .ok (.aload_n 0, 1) := by decide +kernel
theorem dX1_findToken_71 : decode cX1_findToken 71 = .ok (.iconst 0, 1) := by decide +kernel
theorem dX1_findToken_72 : decode cX1_findToken 72 = .ok (.putfield 42, 3) := by decide +kernel
theorem dX1_findToken_75 : decode cX1_findToken 75 = .ok (.goto 56, 3) := by decide +kernel
theorem dX1_findToken_78 : decode cX1_findToken 78 = .ok (.iload_n 1, 1) := by decide +kernel
theorem dX1_findToken_79 : decode cX1_findToken 79 = .ok (.invokestatic 139, 3) := by decide +kernel
theorem dX1_findToken_82 : decode cX1_findToken 82 = .ok (.ifCond .eq 15, 3) := by decide +kernel
theorem dX1_findToken_85 : decode cX1_findToken 85 = .ok (.aload_n 0, 1) := by decide +kernel
theorem dX1_findToken_86 : decode cX1_findToken 86 = .ok (.iconst 1, 1) := by decide +kernel
theorem dX1_findToken_87 : decode cX1_findToken 87 = .ok (.putfield 42, 3) := by decide +kernel
theorem dX1_findToken_90 : decode cX1_findToken 90 = .ok (.aload_n 0, 1) := by decide +kernel
theorem dX1_findToken_91 : decode cX1_findToken 91 = .ok (.invokevirtual 142, 3) := by decide +kernel
theorem dX1_findToken_94 : decode cX1_findToken 94 = .ok (.goto 37, 3) := by decide +kernel
theorem dX1_findToken_97 : decode cX1_findToken 97 = .ok (.iload_n 1, 1) := by decide +kernel
theorem dX1_findToken_98 : decode cX1_findToken 98 = .ok (.invokestatic 145, 3) := by decide +kernel
theorem dX1_findToken_101 : decode cX1_findToken 101 = .ok (.ifCond .eq 15, 3) := by decide +kernel
theorem dX1_findToken_104 : decode cX1_findToken 104 = .ok (.aload_n 0, 1) := by decide +kernel
theorem dX1_findToken_105 : decode cX1_findToken 105 = .ok (.iconst 2, 1) := by decide +kernel
theorem dX1_findToken_106 : decode cX1_findToken 106 = .ok (.putfield 42, 3) := by decide +kernel
theorem dX1_findToken_109 : decode cX1_findToken 109 = .ok (.aload_n 0, 1) := by decide +kernel
theorem dX1_findToken_110 : decode cX1_findToken 110 = .ok (.invokevirtual 148, 3) := by decide +kernel
theorem dX1_findToken_113 : decode cX1_findToken 113 = .ok (.goto 18, 3) := by decide +kernel
theorem dX1_findToken_116 : decode cX1_findToken 116 = .ok (.aload_n 0, 1) := by decide +kernel
theorem dX1_findToken_117 : decode cX1_findToken 117 = .ok (.iconst 3, 1) := by decide +kernel
theorem dX1_findToken_118 : decode cX1_findToken 118 = .ok (.putfield 42, 3) := by decide +kernel
theorem dX1_findToken_121 : decode cX1_findToken 121 = .ok (.aload_n 0, 1) := by decide +kernel
theorem dX1_findToken_122 : decode cX1_findToken 122 = .ok (.dup, 1) := by decide +kernel
theorem dX1_findToken_123 : decode cX1_findToken 123 = .ok (.getfield 19, 3) := by decide +kernel
theorem dX1_findToken_126 : decode cX1_findToken 126 = .ok (.iconst 1, 1) := by decide +kernel
theorem dX1_findToken_127 : decode cX1_findToken 127 = .ok (.iadd, 1) := by decide +kernel
theorem dX1_findToken_128 : decode cX1_findToken 128 = .ok (.putfield 19, 3) := by decide +kernel
theorem dX1_findToken_131 : decode cX1_findToken 131 = .ok (.return_, 1) := by decide +kernel
set_option maxHeartbeats 4000000 in
set_option maxRecDepth 100000 in
theorem g_X1_findToken {E : fh_E} {M : fh_M} (C : fh_Cx E M cX1_findToken 2 RX1 (none) rm_X1_findToken) (Hr : fh_Rt E M) (k1 : Nat) (σ2 : fh_S) : fh_Go E M 2 fh_vU 0 [(0, .ref (fh_ad E k1))] [] σ2 (f_X1_findToken k1 σ2) := by
  have hok := fh_cok C
  refine go_ob ?_
  refine go_aload_n C 0 rfl rfl dX1_findToken_0 ?_
  refine go_aload_n C 0 rfl rfl dX1_findToken_1 ?_
  refine go_gi (ci := 1) (j := 3) C fh_in1 rfl (by decide) rfl q_102 dX1_findToken_2 (fun v3 => ?_)
  refine go_pf (ci := 1) (j := 2) C tyX1 tyX1_ok nmX1 fh_in1 rfl (by decide) rfl q_101 rfl rfl dX1_findToken_5 (fun σ4 => ?_)
  refine go_fx (fun (r6 : fh_S → Option (Unit × fh_S)) => ∀  (σ5 : fh_S), fh_Go E M 2 fh_vU 8 [(0, .ref (fh_ad E k1))] [] σ5 (r6 σ5)) ?_ ?_ fh_fu σ4
  · intro σ5
    exact go_none
  · intro r6 hr6 σ5
    refine go_aload_n C 0 rfl rfl dX1_findToken_8 ?_
    refine go_gi (ci := 1) (j := 2) C fh_in1 rfl (by decide) rfl q_101 dX1_findToken_9 (fun v7 => ?_)
    refine go_bipush C (120 : Int32) dX1_findToken_12 rfl ?_
    refine go_jn (fun (j27 : fh_S → Option (Unit × fh_S)) => ∀ (σ8 : fh_S), fh_Go E M 2 fh_vU 46 [(0, .ref (fh_ad E k1))] [] σ8 (j27 σ8)) ?_ (fun j27 hj27 => ?_)
    · intro σ8
      refine go_aload_n C 0 rfl rfl dX1_findToken_46 ?_
      refine go_aload_n C 0 rfl rfl dX1_findToken_47 ?_
      refine go_gi (ci := 1) (j := 2) C fh_in1 rfl (by decide) rfl q_101 dX1_findToken_48 (fun v9 => ?_)
      refine go_pf (ci := 1) (j := 3) C tyX1 tyX1_ok nmX1 fh_in1 rfl (by decide) rfl q_102 rfl rfl dX1_findToken_51 (fun σ10 => ?_)
      refine go_aload_n C 0 rfl rfl dX1_findToken_54 ?_
      refine go_gr (ci := 1) (j := 0) C fh_in1 rfl (by decide) rfl q_99 dX1_findToken_55 (fun k11 => ?_)
      refine go_aload_n C 0 rfl rfl dX1_findToken_58 ?_
      refine go_gi (ci := 1) (j := 2) C fh_in1 rfl (by decide) rfl q_101 dX1_findToken_59 (fun v12 => ?_)
      refine go_callVI C (st := []) [.int v12] (m_X3_byteAt E _ hok k11 v12 σ10) (fun _ h => fh_ob_ok h) rfl rfl ⟨q_538, q_539, q_540, q_3, q_541⟩ pd_X3_byteAt rfl ⟨⟨Nat.le_of_ble_eq_true rfl, Nat.le_of_ble_eq_true rfl⟩, rfl, rfl⟩ (Nat.le_of_ble_eq_true rfl) dX1_findToken_62 (fun r14 σ13 => ?_)
      refine go_istore_n C [(1, .int r14), (0, .ref (fh_ad E k1))] rfl rfl (by decide) dX1_findToken_65 ?_
      refine go_iload_n C 0 rfl rfl dX1_findToken_66 ?_
      refine go_if_ge (tgt := 78) C dX1_findToken_67 rfl (fun _ => ?_) (fun _ => ?_)
      · refine go_iload_n C 0 rfl rfl dX1_findToken_78 ?_
        refine go_callSI C (st := []) [.int r14] (m_X1_isLetter E _ hok r14 σ13) rfl ⟨q_542, q_543, q_4, q_544⟩ pd_X1_isLetter rfl ⟨⟨Nat.le_of_ble_eq_true rfl, Nat.le_of_ble_eq_true rfl⟩, rfl, rfl⟩ (Nat.le_of_ble_eq_true rfl) dX1_findToken_79 (fun r16 σ15 => ?_)
        refine go_if_eq (tgt := 97) C dX1_findToken_82 rfl (fun _ => ?_) (fun _ => ?_)
        · refine go_iload_n C 0 rfl rfl dX1_findToken_97 ?_
          refine go_callSI C (st := []) [.int r14] (m_X1_isDigit E _ hok r14 σ15) rfl ⟨q_549, q_550, q_4, q_551⟩ pd_X1_isDigit rfl ⟨⟨Nat.le_of_ble_eq_true rfl, Nat.le_of_ble_eq_true rfl⟩, rfl, rfl⟩ (Nat.le_of_ble_eq_true rfl) dX1_findToken_98 (fun r18 σ17 => ?_)
          refine go_if_eq (tgt := 116) C dX1_findToken_101 rfl (fun _ => ?_) (fun _ => ?_)
          · refine go_aload_n C 1 rfl rfl dX1_findToken_116 ?_
            refine go_iconst C (3 : Int32) dX1_findToken_117 rfl ?_
            refine go_pf (ci := 1) (j := 1) C tyX1 tyX1_ok nmX1 fh_in1 rfl (by decide) rfl q_100 rfl rfl dX1_findToken_118 (fun σ19 => ?_)
            refine go_aload_n C 1 rfl rfl dX1_findToken_121 ?_
            refine go_dup C rfl dX1_findToken_122 ?_
            refine go_gi (ci := 1) (j := 3) C fh_in1 rfl (by decide) rfl q_102 dX1_findToken_123 (fun v20 => ?_)
            refine go_iconst C (1 : Int32) dX1_findToken_126 rfl ?_
            refine go_iadd C dX1_findToken_127 ?_
            refine go_pf (ci := 1) (j := 3) C tyX1 tyX1_ok nmX1 fh_in1 rfl (by decide) rfl q_102 rfl rfl dX1_findToken_128 (fun σ21 => ?_)
            exact go_vret C Hr rfl dX1_findToken_131
          · refine go_aload_n C 1 rfl rfl dX1_findToken_104 ?_
            refine go_iconst C (2 : Int32) dX1_findToken_105 rfl ?_
            refine go_pf (ci := 1) (j := 1) C tyX1 tyX1_ok nmX1 fh_in1 rfl (by decide) rfl q_100 rfl rfl dX1_findToken_106 (fun σ22 => ?_)
            refine go_aload_n C 1 rfl rfl dX1_findToken_109 ?_
            refine go_callVU C (st := []) [] (m_X1_readDigits E _ hok k1 σ22) (fun _ h => fh_ob_ok h) rfl rfl ⟨q_552, q_554, qs_10, q_4, q_555⟩ pd_X1_readDigits rfl ⟨⟨Nat.le_of_ble_eq_true rfl, Nat.le_of_ble_eq_true rfl⟩, rfl, rfl⟩ (Nat.le_of_ble_eq_true rfl) dX1_findToken_110 (fun _ σ23 => ?_)
            refine go_goto C 131 dX1_findToken_113 rfl ?_
            exact go_vret C Hr rfl dX1_findToken_131
        · refine go_aload_n C 1 rfl rfl dX1_findToken_85 ?_
          refine go_iconst C (1 : Int32) dX1_findToken_86 rfl ?_
          refine go_pf (ci := 1) (j := 1) C tyX1 tyX1_ok nmX1 fh_in1 rfl (by decide) rfl q_100 rfl rfl dX1_findToken_87 (fun σ24 => ?_)
          refine go_aload_n C 1 rfl rfl dX1_findToken_90 ?_
          refine go_callVU C (st := []) [] (m_X1_readLetters E _ hok k1 σ24) (fun _ h => fh_ob_ok h) rfl rfl ⟨q_545, q_547, qs_9, q_4, q_548⟩ pd_X1_readLetters rfl ⟨⟨Nat.le_of_ble_eq_true rfl, Nat.le_of_ble_eq_true rfl⟩, rfl, rfl⟩ (Nat.le_of_ble_eq_true rfl) dX1_findToken_91 (fun _ σ25 => ?_)
          refine go_goto C 131 dX1_findToken_94 rfl ?_
          exact go_vret C Hr rfl dX1_findToken_131
      · refine go_aload_n C 1 rfl rfl dX1_findToken_70 ?_
        refine go_iconst C (0 : Int32) dX1_findToken_71 rfl ?_
        refine go_pf (ci := 1) (j := 1) C tyX1 tyX1_ok nmX1 fh_in1 rfl (by decide) rfl q_100 rfl rfl dX1_findToken_72 (fun σ26 => ?_)
        refine go_goto C 131 dX1_findToken_75 rfl ?_
        exact go_vret C Hr rfl dX1_findToken_131
    refine go_icmp_ge (tgt := 46) C dX1_findToken_14 rfl (fun _ => ?_) (fun _ => ?_)
    · exact hj27 σ5
    · refine go_aload_n C 0 rfl rfl dX1_findToken_17 ?_
      refine go_gr (ci := 1) (j := 0) C fh_in1 rfl (by decide) rfl q_99 dX1_findToken_18 (fun k28 => ?_)
      refine go_aload_n C 0 rfl rfl dX1_findToken_21 ?_
      refine go_gi (ci := 1) (j := 2) C fh_in1 rfl (by decide) rfl q_101 dX1_findToken_22 (fun v29 => ?_)
      refine go_callVI C (st := []) [.int v29] (m_X3_byteAt E _ hok k28 v29 σ5) (fun _ h => fh_ob_ok h) rfl rfl ⟨q_538, q_539, q_540, q_3, q_541⟩ pd_X3_byteAt rfl ⟨⟨Nat.le_of_ble_eq_true rfl, Nat.le_of_ble_eq_true rfl⟩, rfl, rfl⟩ (Nat.le_of_ble_eq_true rfl) dX1_findToken_25 (fun r31 σ30 => ?_)
      refine go_bipush C (32 : Int32) dX1_findToken_28 rfl ?_
      refine go_icmp_ne (tgt := 46) C dX1_findToken_30 rfl (fun _ => ?_) (fun _ => ?_)
      · exact hj27 σ30
      · refine go_aload_n C 0 rfl rfl dX1_findToken_33 ?_
        refine go_dup C rfl dX1_findToken_34 ?_
        refine go_gi (ci := 1) (j := 2) C fh_in1 rfl (by decide) rfl q_101 dX1_findToken_35 (fun v32 => ?_)
        refine go_iconst C (1 : Int32) dX1_findToken_38 rfl ?_
        refine go_iadd C dX1_findToken_39 ?_
        refine go_pf (ci := 1) (j := 2) C tyX1 tyX1_ok nmX1 fh_in1 rfl (by decide) rfl q_101 rfl rfl dX1_findToken_40 (fun σ33 => ?_)
        refine go_goto C 8 dX1_findToken_43 rfl ?_
        exact hr6 σ33
theorem m_X1_findToken (E : fh_E) (l : Launch) (hok : fh_ok E) (k1 : Nat) (σ2 : fh_S) : fh_Met E l yX1_findToken cX1_findToken 2 (none) rm_X1_findToken fh_vU [.ref (fh_ad E k1)] σ2 (f_X1_findToken k1 σ2) := fh_met hok (by decide +kernel) (Nat.le_of_ble_eq_true rfl) (fun M _ C Hr => g_X1_findToken C Hr k1 σ2)
def f_J0_isLatin1_aae02 (i1 : Nat) (σ2 : fh_S) : Option (Int32 × fh_S) := fh_sg i1 (if ((1 : Int32)) = 0 then fh_rz ((0 : Int32)) σ2 else if ((0 : Int32)) = 0 then fh_rz ((1 : Int32)) σ2 else fh_rz ((0 : Int32)) σ2)
abbrev rm_J0_isLatin1_aae02 : Room := { frames := 0, cells := 0, slots := 0, locals := 0 }
theorem pd_J0_isLatin1_aae02 : yJ0_isLatin1_aae02.cls ≠ "java/lang/invoke/MethodHandle" ∧ yJ0_isLatin1_aae02.cls ≠ "java/lang/invoke/VarHandle" ∧ (parseMethodDescriptor yJ0_isLatin1_aae02.desc).map (fun d => d.parameters.length) = some 0 := by decide +kernel
theorem dJ0_isLatin1_aae02_0 : decode cJ0_isLatin1_aae02 0 = .ok (.getstatic 38, 3) := by decide +kernel
theorem dJ0_isLatin1_aae02_3 : decode cJ0_isLatin1_aae02 3 = .ok (.ifCond .eq 14, 3) := by decide +kernel
theorem dJ0_isLatin1_aae02_6 : decode cJ0_isLatin1_aae02 6 = .ok (.aload_n 0, 1) := by decide +kernel
theorem dJ0_isLatin1_aae02_7 : decode cJ0_isLatin1_aae02 7 = .ok (.getfield 15, 3) := by decide +kernel
theorem dJ0_isLatin1_aae02_10 : decode cJ0_isLatin1_aae02 10 = .ok (.ifCond .ne 7, 3) := by decide +kernel
theorem dJ0_isLatin1_aae02_13 : decode cJ0_isLatin1_aae02 13 = .ok (.iconst 1, 1) := by decide +kernel
theorem dJ0_isLatin1_aae02_14 : decode cJ0_isLatin1_aae02 14 = .ok (.goto 4, 3) := by decide +kernel
theorem dJ0_isLatin1_aae02_17 : decode cJ0_isLatin1_aae02 17 = .ok (.iconst 0, 1) := by decide +kernel
theorem dJ0_isLatin1_aae02_18 : decode cJ0_isLatin1_aae02 18 = .ok (.ireturn, 1) := by decide +kernel
set_option maxHeartbeats 4000000 in
set_option maxRecDepth 100000 in
theorem g_J0_isLatin1_aae02 {E : fh_E} {M : fh_M} (C : fh_Cx E M cJ0_isLatin1_aae02 1 RJ0 ((some FieldType.boolean)) rm_J0_isLatin1_aae02) (Hr : fh_Rt E M) (i1 : Nat) (σ2 : fh_S) : fh_Go E M 1 fh_vI 0 [(0, .ref (fh_aK E i1))] [] σ2 (f_J0_isLatin1_aae02 i1 σ2) := by
  have hok := fh_cok C
  refine go_sg (fun hgi1 => ?_)
  refine go_cs C q_574 dJ0_isLatin1_aae02_0 ?_
  refine go_if_eq (tgt := 17) C dJ0_isLatin1_aae02_3 rfl (fun _ => ?_) (fun _ => ?_)
  · refine go_iconst C (0 : Int32) dJ0_isLatin1_aae02_17 rfl ?_
    exact go_zret C Hr dJ0_isLatin1_aae02_18
  · refine go_aload_n C 0 rfl rfl dJ0_isLatin1_aae02_6 ?_
    refine go_scod C hgi1 q_1245 dJ0_isLatin1_aae02_7 ?_
    refine go_if_ne (tgt := 17) C dJ0_isLatin1_aae02_10 rfl (fun _ => ?_) (fun _ => ?_)
    · refine go_iconst C (0 : Int32) dJ0_isLatin1_aae02_17 rfl ?_
      exact go_zret C Hr dJ0_isLatin1_aae02_18
    · refine go_iconst C (1 : Int32) dJ0_isLatin1_aae02_13 rfl ?_
      refine go_goto C 18 dJ0_isLatin1_aae02_14 rfl ?_
      exact go_zret C Hr dJ0_isLatin1_aae02_18
theorem m_J0_isLatin1_aae02 (E : fh_E) (l : Launch) (hok : fh_ok E) (i1 : Nat) (σ2 : fh_S) : fh_Met E l yJ0_isLatin1_aae02 cJ0_isLatin1_aae02 1 ((some FieldType.boolean)) rm_J0_isLatin1_aae02 fh_vI [.ref (fh_aK E i1)] σ2 (f_J0_isLatin1_aae02 i1 σ2) := fh_met hok (by decide +kernel) (Nat.le_of_ble_eq_true rfl) (fun M _ C Hr => g_J0_isLatin1_aae02 C Hr i1 σ2)
def f_J3_checkIndex_8e157_J9 : fh_S → Option (Int32 × fh_S) := fun σ5 => none
def f_J3_checkIndex_8e157 (a1 : Int32) (a2 : Int32) (σ4 : fh_S) : Option (Int32 × fh_S) := fh_jn (f_J3_checkIndex_8e157_J9) (fun j6 => if a1 < 0 then j6 σ4 else if a1 < a2 then some (a1, σ4) else j6 σ4)
abbrev rm_J3_checkIndex_8e157 : Room := { frames := 0, cells := 0, slots := 0, locals := 0 }
theorem pd_J3_checkIndex_8e157 : yJ3_checkIndex_8e157.cls ≠ "java/lang/invoke/MethodHandle" ∧ yJ3_checkIndex_8e157.cls ≠ "java/lang/invoke/VarHandle" ∧ (parseMethodDescriptor yJ3_checkIndex_8e157.desc).map (fun d => d.parameters.length) = some 3 := by decide +kernel
theorem dJ3_checkIndex_8e157_0 : decode cJ3_checkIndex_8e157 0 = .ok (.iload_n 0, 1) := by decide +kernel
theorem dJ3_checkIndex_8e157_1 : decode cJ3_checkIndex_8e157 1 = .ok (.ifCond .lt 8, 3) := by decide +kernel
theorem dJ3_checkIndex_8e157_4 : decode cJ3_checkIndex_8e157 4 = .ok (.iload_n 0, 1) := by decide +kernel
theorem dJ3_checkIndex_8e157_5 : decode cJ3_checkIndex_8e157 5 = .ok (.iload_n 1, 1) := by decide +kernel
theorem dJ3_checkIndex_8e157_6 : decode cJ3_checkIndex_8e157 6 = .ok (.if_icmp .lt 10, 3) := by decide +kernel
theorem dJ3_checkIndex_8e157_9 : decode cJ3_checkIndex_8e157 9 = .ok (.aload_n 2, 1) := by decide +kernel
theorem dJ3_checkIndex_8e157_10 : decode cJ3_checkIndex_8e157 10 = .ok (.iload_n 0, 1) := by decide +kernel
theorem dJ3_checkIndex_8e157_11 : decode cJ3_checkIndex_8e157 11 = .ok (.iload_n 1, 1) := by decide +kernel
theorem dJ3_checkIndex_8e157_12 : decode cJ3_checkIndex_8e157 12 = .ok (.invokestatic 95, 3) := by decide +kernel
theorem dJ3_checkIndex_8e157_15 : decode cJ3_checkIndex_8e157 15 = .ok (.athrow, 1) := by decide +kernel
theorem dJ3_checkIndex_8e157_16 : decode cJ3_checkIndex_8e157 16 = .ok (.iload_n 0, 1) := by decide +kernel
theorem dJ3_checkIndex_8e157_17 : decode cJ3_checkIndex_8e157 17 = .ok (.ireturn, 1) := by decide +kernel
set_option maxHeartbeats 4000000 in
set_option maxRecDepth 100000 in
theorem g_J3_checkIndex_8e157 {E : fh_E} {M : fh_M} (C : fh_Cx E M cJ3_checkIndex_8e157 3 RJ3 ((some FieldType.int)) rm_J3_checkIndex_8e157) (Hr : fh_Rt E M) (a1 : Int32) (a2 : Int32) (σ4 : fh_S) (u3 : Value) : fh_Go E M 3 fh_vI 0 [(0, .int a1), (1, .int a2), (2, u3)] [] σ4 (f_J3_checkIndex_8e157 a1 a2 σ4) := by
  have hok := fh_cok C
  refine go_iload_n C 0 rfl rfl dJ3_checkIndex_8e157_0 ?_
  refine go_jn (fun (j6 : fh_S → Option (Int32 × fh_S)) => ∀ (σ5 : fh_S), fh_Go E M 3 fh_vI 9 [(0, .int a1), (1, .int a2), (2, u3)] [] σ5 (j6 σ5)) ?_ (fun j6 hj6 => ?_)
  · intro σ5
    exact go_none
  refine go_if_lt (tgt := 9) C dJ3_checkIndex_8e157_1 rfl (fun _ => ?_) (fun _ => ?_)
  · exact hj6 σ4
  · refine go_iload_n C 0 rfl rfl dJ3_checkIndex_8e157_4 ?_
    refine go_iload_n C 1 rfl rfl dJ3_checkIndex_8e157_5 ?_
    refine go_icmp_lt (tgt := 16) C dJ3_checkIndex_8e157_6 rfl (fun _ => ?_) (fun _ => ?_)
    · refine go_iload_n C 0 rfl rfl dJ3_checkIndex_8e157_16 ?_
      exact go_iret C Hr rfl dJ3_checkIndex_8e157_17
    · exact hj6 σ4
theorem m_J3_checkIndex_8e157 (E : fh_E) (l : Launch) (hok : fh_ok E) (a1 : Int32) (a2 : Int32) (σ4 : fh_S) (u3 : Value) (hu : u3.category = 1) : fh_Met E l yJ3_checkIndex_8e157 cJ3_checkIndex_8e157 3 ((some FieldType.int)) rm_J3_checkIndex_8e157 fh_vI [.int a1, .int a2, u3] σ4 (f_J3_checkIndex_8e157 a1 a2 σ4) := fh_met hok (by decide +kernel) (by cases u3 <;> first | exact Nat.le_of_ble_eq_true rfl | cases hu) (fun M _ C Hr => g_J3_checkIndex_8e157 C Hr a1 a2 σ4 u3)
def f_J0_checkIndex_df160 (a1 : Int32) (a2 : Int32) (σ3 : fh_S) : Option (Unit × fh_S) := fh_cb (f_J3_checkIndex_8e157 a1 a2 σ3) fun r6 σ5 => some ((), σ5)
abbrev rm_J0_checkIndex_df160 : Room := { frames := 1, cells := 0, slots := 0, locals := 22 }
theorem pd_J0_checkIndex_df160 : yJ0_checkIndex_df160.cls ≠ "java/lang/invoke/MethodHandle" ∧ yJ0_checkIndex_df160.cls ≠ "java/lang/invoke/VarHandle" ∧ (parseMethodDescriptor yJ0_checkIndex_df160.desc).map (fun d => d.parameters.length) = some 2 := by decide +kernel
theorem dJ0_checkIndex_df160_0 : decode cJ0_checkIndex_df160 0 = .ok (.iload_n 0, 1) := by decide +kernel
theorem dJ0_checkIndex_df160_1 : decode cJ0_checkIndex_df160 1 = .ok (.iload_n 1, 1) := by decide +kernel
theorem dJ0_checkIndex_df160_2 : decode cJ0_checkIndex_df160 2 = .ok (.getstatic 1053, 3) := by decide +kernel
theorem dJ0_checkIndex_df160_5 : decode cJ0_checkIndex_df160 5 = .ok (.invokestatic 1059, 3) := by decide +kernel
theorem dJ0_checkIndex_df160_8 : decode cJ0_checkIndex_df160 8 = .ok (.pop, 1) := by decide +kernel
theorem dJ0_checkIndex_df160_9 : decode cJ0_checkIndex_df160 9 = .ok (.return_, 1) := by decide +kernel
set_option maxHeartbeats 4000000 in
set_option maxRecDepth 100000 in
theorem g_J0_checkIndex_df160 {E : fh_E} {M : fh_M} (C : fh_Cx E M cJ0_checkIndex_df160 2 RJ0 (none) rm_J0_checkIndex_df160) (Hr : fh_Rt E M) (a1 : Int32) (a2 : Int32) (σ3 : fh_S) : fh_Go E M 2 fh_vU 0 [(0, .int a1), (1, .int a2)] [] σ3 (f_J0_checkIndex_df160 a1 a2 σ3) := by
  have hok := fh_cok C
  refine go_iload_n C 0 rfl rfl dJ0_checkIndex_df160_0 ?_
  refine go_iload_n C 1 rfl rfl dJ0_checkIndex_df160_1 ?_
  refine go_sio C q_590 dJ0_checkIndex_df160_2 (fun u4 hu => ?_)
  refine go_callSI C (st := []) [.int a1, .int a2, u4] (m_J3_checkIndex_8e157 E _ hok a1 a2 σ3 u4 hu) rfl ⟨q_592, q_593, q_12, q_594⟩ pd_J3_checkIndex_8e157 rfl ⟨⟨Nat.le_of_ble_eq_true rfl, Nat.le_of_ble_eq_true rfl⟩, rfl, rfl⟩ (Nat.le_of_ble_eq_true rfl) dJ0_checkIndex_df160_5 (fun r6 σ5 => ?_)
  refine go_pop C rfl dJ0_checkIndex_df160_8 ?_
  exact go_vret C Hr rfl dJ0_checkIndex_df160_9
theorem m_J0_checkIndex_df160 (E : fh_E) (l : Launch) (hok : fh_ok E) (a1 : Int32) (a2 : Int32) (σ3 : fh_S) : fh_Met E l yJ0_checkIndex_df160 cJ0_checkIndex_df160 2 (none) rm_J0_checkIndex_df160 fh_vU [.int a1, .int a2] σ3 (f_J0_checkIndex_df160 a1 a2 σ3) := fh_met hok (by decide +kernel) (Nat.le_of_ble_eq_true rfl) (fun M _ C Hr => g_J0_checkIndex_df160 C Hr a1 a2 σ3)
def f_J1_charAt_3b067 (i1 : Nat) (a2 : Int32) (σ3 : fh_S) : Option (Int32 × fh_S) := fh_sg i1 (fh_cb (f_J0_checkIndex_df160 a2 (Int32.ofNat (fh_sl i1)) σ3) fun _ σ4 => (fh_sb i1 a2).bind fun v5 => fh_rc (((v5 &&& ((255 : Int32))).toUInt32 % 65536).toInt32) σ4)
abbrev rm_J1_charAt_3b067 : Room := { frames := 2, cells := 0, slots := 0, locals := 43 }
theorem pd_J1_charAt_3b067 : yJ1_charAt_3b067.cls ≠ "java/lang/invoke/MethodHandle" ∧ yJ1_charAt_3b067.cls ≠ "java/lang/invoke/VarHandle" ∧ (parseMethodDescriptor yJ1_charAt_3b067.desc).map (fun d => d.parameters.length) = some 2 := by decide +kernel
theorem dJ1_charAt_3b067_0 : decode cJ1_charAt_3b067 0 = .ok (.iload_n 1, 1) := by decide +kernel
theorem dJ1_charAt_3b067_1 : decode cJ1_charAt_3b067 1 = .ok (.aload_n 0, 1) := by decide +kernel
theorem dJ1_charAt_3b067_2 : decode cJ1_charAt_3b067 2 = .ok (.arraylength, 1) := by decide +kernel
theorem dJ1_charAt_3b067_3 : decode cJ1_charAt_3b067 3 = .ok (.invokestatic 9, 3) := by decide +kernel
theorem dJ1_charAt_3b067_6 : decode cJ1_charAt_3b067 6 = .ok (.aload_n 0, 1) := by decide +kernel
theorem dJ1_charAt_3b067_7 : decode cJ1_charAt_3b067 7 = .ok (.iload_n 1, 1) := by decide +kernel
theorem dJ1_charAt_3b067_8 : decode cJ1_charAt_3b067 8 = .ok (.baload, 1) := by decide +kernel
theorem dJ1_charAt_3b067_9 : decode cJ1_charAt_3b067 9 = .ok (.sipush 255, 3) := by decide +kernel
theorem dJ1_charAt_3b067_12 : decode cJ1_charAt_3b067 12 = .ok (.iand, 1) := by decide +kernel
theorem dJ1_charAt_3b067_13 : decode cJ1_charAt_3b067 13 = .ok (.i2c, 1) := by decide +kernel
theorem dJ1_charAt_3b067_14 : decode cJ1_charAt_3b067 14 = .ok (.ireturn, 1) := by decide +kernel
set_option maxHeartbeats 4000000 in
set_option maxRecDepth 100000 in
theorem g_J1_charAt_3b067 {E : fh_E} {M : fh_M} (C : fh_Cx E M cJ1_charAt_3b067 2 RJ1 ((some FieldType.char)) rm_J1_charAt_3b067) (Hr : fh_Rt E M) (i1 : Nat) (a2 : Int32) (σ3 : fh_S) : fh_Go E M 2 fh_vI 0 [(0, .ref (fh_aV E i1)), (1, .int a2)] [] σ3 (f_J1_charAt_3b067 i1 a2 σ3) := by
  have hok := fh_cok C
  refine go_sg (fun hgi1 => ?_)
  refine go_iload_n C 1 rfl rfl dJ1_charAt_3b067_0 ?_
  refine go_aload_n C 0 rfl rfl dJ1_charAt_3b067_1 ?_
  refine go_slen C hgi1 dJ1_charAt_3b067_2 ?_
  refine go_callSU C (st := []) [.int a2, .int (Int32.ofNat (fh_sl i1))] (m_J0_checkIndex_df160 E _ hok a2 (Int32.ofNat (fh_sl i1)) σ3) rfl ⟨q_587, q_588, q_10, q_589⟩ pd_J0_checkIndex_df160 rfl ⟨⟨Nat.le_of_ble_eq_true rfl, Nat.le_of_ble_eq_true rfl⟩, rfl, rfl⟩ (Nat.le_of_ble_eq_true rfl) dJ1_charAt_3b067_3 (fun _ σ4 => ?_)
  refine go_aload_n C 0 rfl rfl dJ1_charAt_3b067_6 ?_
  refine go_iload_n C 1 rfl rfl dJ1_charAt_3b067_7 ?_
  refine go_sbl C dJ1_charAt_3b067_8 (fun v5 => ?_)
  refine go_sipush C (255 : Int32) dJ1_charAt_3b067_9 rfl ?_
  refine go_iand C dJ1_charAt_3b067_12 ?_
  refine go_i2c C dJ1_charAt_3b067_13 ?_
  exact go_cret C Hr dJ1_charAt_3b067_14
theorem m_J1_charAt_3b067 (E : fh_E) (l : Launch) (hok : fh_ok E) (i1 : Nat) (a2 : Int32) (σ3 : fh_S) : fh_Met E l yJ1_charAt_3b067 cJ1_charAt_3b067 2 ((some FieldType.char)) rm_J1_charAt_3b067 fh_vI [.ref (fh_aV E i1), .int a2] σ3 (f_J1_charAt_3b067 i1 a2 σ3) := fh_met hok (by decide +kernel) (Nat.le_of_ble_eq_true rfl) (fun M _ C Hr => g_J1_charAt_3b067 C Hr i1 a2 σ3)
def f_J0_charAt_5068e (i1 : Nat) (a2 : Int32) (σ3 : fh_S) : Option (Int32 × fh_S) := fh_sg i1 (fh_cb (f_J0_isLatin1_aae02 i1 σ3) fun r5 σ4 => if r5 = 0 then none else fh_cb (f_J1_charAt_3b067 i1 a2 σ4) fun r7 σ6 => fh_rc r7 σ6)
abbrev rm_J0_charAt_5068e : Room := { frames := 3, cells := 0, slots := 0, locals := 64 }
theorem pd_J0_charAt_5068e : yJ0_charAt_5068e.cls ≠ "java/lang/invoke/MethodHandle" ∧ yJ0_charAt_5068e.cls ≠ "java/lang/invoke/VarHandle" ∧ (parseMethodDescriptor yJ0_charAt_5068e.desc).map (fun d => d.parameters.length) = some 1 := by decide +kernel
theorem dJ0_charAt_5068e_0 : decode cJ0_charAt_5068e 0 = .ok (.aload_n 0, 1) := by decide +kernel
theorem dJ0_charAt_5068e_1 : decode cJ0_charAt_5068e 1 = .ok (.invokevirtual 492, 3) := by decide +kernel
theorem dJ0_charAt_5068e_4 : decode cJ0_charAt_5068e 4 = .ok (.ifCond .eq 12, 3) := by decide +kernel
theorem dJ0_charAt_5068e_7 : decode cJ0_charAt_5068e 7 = .ok (.aload_n 0, 1) := by decide +kernel
theorem dJ0_charAt_5068e_8 : decode cJ0_charAt_5068e 8 = .ok (.getfield 9, 3) := by decide +kernel
theorem dJ0_charAt_5068e_11 : decode cJ0_charAt_5068e 11 = .ok (.iload_n 1, 1) := by decide +kernel
theorem dJ0_charAt_5068e_12 : decode cJ0_charAt_5068e 12 = .ok (.invokestatic 495, 3) := by decide +kernel
theorem dJ0_charAt_5068e_15 : decode cJ0_charAt_5068e 15 = .ok (.ireturn, 1) := by decide +kernel
theorem dJ0_charAt_5068e_16 : decode cJ0_charAt_5068e 16 = .ok (.aload_n 0, 1) := by decide +kernel
theorem dJ0_charAt_5068e_17 : decode cJ0_charAt_5068e 17 = .ok (.getfield 9, 3) := by decide +kernel
theorem dJ0_charAt_5068e_20 : decode cJ0_charAt_5068e 20 = .ok (.iload_n 1, 1) := by decide +kernel
theorem dJ0_charAt_5068e_21 : decode cJ0_charAt_5068e 21 = .ok (.invokestatic 498, 3) := by decide +kernel
theorem dJ0_charAt_5068e_24 : decode cJ0_charAt_5068e 24 = .ok (.ireturn, 1) := by decide +kernel
set_option maxHeartbeats 4000000 in
set_option maxRecDepth 100000 in
theorem g_J0_charAt_5068e {E : fh_E} {M : fh_M} (C : fh_Cx E M cJ0_charAt_5068e 2 RJ0 ((some FieldType.char)) rm_J0_charAt_5068e) (Hr : fh_Rt E M) (i1 : Nat) (a2 : Int32) (σ3 : fh_S) : fh_Go E M 2 fh_vI 0 [(0, .ref (fh_aK E i1)), (1, .int a2)] [] σ3 (f_J0_charAt_5068e i1 a2 σ3) := by
  have hok := fh_cok C
  refine go_sg (fun hgi1 => ?_)
  refine go_aload_n C 0 rfl rfl dJ0_charAt_5068e_0 ?_
  refine go_callXI C (st := []) [] (m_J0_isLatin1_aae02 E _ hok i1 σ3) (fun _ h => fh_sg_ok h) rfl rfl ⟨q_580, q_581, q_582, q_10, q_583⟩ pd_J0_isLatin1_aae02 rfl ⟨⟨Nat.le_of_ble_eq_true rfl, Nat.le_of_ble_eq_true rfl⟩, rfl, rfl⟩ (Nat.le_of_ble_eq_true rfl) dJ0_charAt_5068e_1 (fun r5 σ4 => ?_)
  refine go_if_eq (tgt := 16) C dJ0_charAt_5068e_4 rfl (fun _ => ?_) (fun _ => ?_)
  · refine go_aload_n C 0 rfl rfl dJ0_charAt_5068e_16 ?_
    refine go_sval C hgi1 q_1244 dJ0_charAt_5068e_17 ?_
    refine go_iload_n C 1 rfl rfl dJ0_charAt_5068e_20 ?_
    exact go_none
  · refine go_aload_n C 0 rfl rfl dJ0_charAt_5068e_7 ?_
    refine go_sval C hgi1 q_1244 dJ0_charAt_5068e_8 ?_
    refine go_iload_n C 1 rfl rfl dJ0_charAt_5068e_11 ?_
    refine go_callSI C (st := []) [.ref (fh_aV E i1), .int a2] (m_J1_charAt_3b067 E _ hok i1 a2 σ4) rfl ⟨q_584, q_585, q_11, q_586⟩ pd_J1_charAt_3b067 rfl ⟨⟨Nat.le_of_ble_eq_true rfl, Nat.le_of_ble_eq_true rfl⟩, rfl, rfl⟩ (Nat.le_of_ble_eq_true rfl) dJ0_charAt_5068e_12 (fun r7 σ6 => ?_)
    exact go_cret C Hr dJ0_charAt_5068e_15
theorem m_J0_charAt_5068e (E : fh_E) (l : Launch) (hok : fh_ok E) (i1 : Nat) (a2 : Int32) (σ3 : fh_S) : fh_Met E l yJ0_charAt_5068e cJ0_charAt_5068e 2 ((some FieldType.char)) rm_J0_charAt_5068e fh_vI [.ref (fh_aK E i1), .int a2] σ3 (f_J0_charAt_5068e i1 a2 σ3) := fh_met hok (by decide +kernel) (Nat.le_of_ble_eq_true rfl) (fun M _ C Hr => g_J0_charAt_5068e C Hr i1 a2 σ3)
def f_J0_coder_7d493 (i1 : Nat) (σ2 : fh_S) : Option (Int32 × fh_S) := fh_sg i1 (if ((1 : Int32)) = 0 then fh_ry ((1 : Int32)) σ2 else fh_ry ((0 : Int32)) σ2)
abbrev rm_J0_coder_7d493 : Room := { frames := 0, cells := 0, slots := 0, locals := 0 }
theorem pd_J0_coder_7d493 : yJ0_coder_7d493.cls ≠ "java/lang/invoke/MethodHandle" ∧ yJ0_coder_7d493.cls ≠ "java/lang/invoke/VarHandle" ∧ (parseMethodDescriptor yJ0_coder_7d493.desc).map (fun d => d.parameters.length) = some 0 := by decide +kernel
theorem dJ0_coder_7d493_0 : decode cJ0_coder_7d493 0 = .ok (.getstatic 38, 3) := by decide +kernel
theorem dJ0_coder_7d493_3 : decode cJ0_coder_7d493 3 = .ok (.ifCond .eq 10, 3) := by decide +kernel
theorem dJ0_coder_7d493_6 : decode cJ0_coder_7d493 6 = .ok (.aload_n 0, 1) := by decide +kernel
theorem dJ0_coder_7d493_7 : decode cJ0_coder_7d493 7 = .ok (.getfield 15, 3) := by decide +kernel
theorem dJ0_coder_7d493_10 : decode cJ0_coder_7d493 10 = .ok (.goto 4, 3) := by decide +kernel
theorem dJ0_coder_7d493_13 : decode cJ0_coder_7d493 13 = .ok (.iconst 1, 1) := by decide +kernel
theorem dJ0_coder_7d493_14 : decode cJ0_coder_7d493 14 = .ok (.ireturn, 1) := by decide +kernel
set_option maxHeartbeats 4000000 in
set_option maxRecDepth 100000 in
theorem g_J0_coder_7d493 {E : fh_E} {M : fh_M} (C : fh_Cx E M cJ0_coder_7d493 1 RJ0 ((some FieldType.byte)) rm_J0_coder_7d493) (Hr : fh_Rt E M) (i1 : Nat) (σ2 : fh_S) : fh_Go E M 1 fh_vI 0 [(0, .ref (fh_aK E i1))] [] σ2 (f_J0_coder_7d493 i1 σ2) := by
  have hok := fh_cok C
  refine go_sg (fun hgi1 => ?_)
  refine go_cs C q_574 dJ0_coder_7d493_0 ?_
  refine go_if_eq (tgt := 13) C dJ0_coder_7d493_3 rfl (fun _ => ?_) (fun _ => ?_)
  · refine go_iconst C (1 : Int32) dJ0_coder_7d493_13 rfl ?_
    exact go_yret C Hr dJ0_coder_7d493_14
  · refine go_aload_n C 0 rfl rfl dJ0_coder_7d493_6 ?_
    refine go_scod C hgi1 q_1245 dJ0_coder_7d493_7 ?_
    refine go_goto C 14 dJ0_coder_7d493_10 rfl ?_
    exact go_yret C Hr dJ0_coder_7d493_14
theorem m_J0_coder_7d493 (E : fh_E) (l : Launch) (hok : fh_ok E) (i1 : Nat) (σ2 : fh_S) : fh_Met E l yJ0_coder_7d493 cJ0_coder_7d493 1 ((some FieldType.byte)) rm_J0_coder_7d493 fh_vI [.ref (fh_aK E i1)] σ2 (f_J0_coder_7d493 i1 σ2) := fh_met hok (by decide +kernel) (Nat.le_of_ble_eq_true rfl) (fun M _ C Hr => g_J0_coder_7d493 C Hr i1 σ2)
def f_J0_length_8abf5 (i1 : Nat) (σ2 : fh_S) : Option (Int32 × fh_S) := fh_sg i1 (fh_cb (f_J0_coder_7d493 i1 σ2) fun r4 σ3 => some ((Int32.ofNat (fh_sl i1)) >>> (r4 &&& 31), σ3))
abbrev rm_J0_length_8abf5 : Room := { frames := 1, cells := 0, slots := 0, locals := 20 }
theorem pd_J0_length_8abf5 : yJ0_length_8abf5.cls ≠ "java/lang/invoke/MethodHandle" ∧ yJ0_length_8abf5.cls ≠ "java/lang/invoke/VarHandle" ∧ (parseMethodDescriptor yJ0_length_8abf5.desc).map (fun d => d.parameters.length) = some 0 := by decide +kernel
theorem dJ0_length_8abf5_0 : decode cJ0_length_8abf5 0 = .ok (.aload_n 0, 1) := by decide +kernel
theorem dJ0_length_8abf5_1 : decode cJ0_length_8abf5 1 = .ok (.getfield 9, 3) := by decide +kernel
theorem dJ0_length_8abf5_4 : decode cJ0_length_8abf5 4 = .ok (.arraylength, 1) := by decide +kernel
theorem dJ0_length_8abf5_5 : decode cJ0_length_8abf5 5 = .ok (.aload_n 0, 1) := by decide +kernel
theorem dJ0_length_8abf5_6 : decode cJ0_length_8abf5 6 = .ok (.invokevirtual 335, 3) := by decide +kernel
theorem dJ0_length_8abf5_9 : decode cJ0_length_8abf5 9 = .ok (.ishr, 1) := by decide +kernel
theorem dJ0_length_8abf5_10 : decode cJ0_length_8abf5 10 = .ok (.ireturn, 1) := by decide +kernel
set_option maxHeartbeats 4000000 in
set_option maxRecDepth 100000 in
theorem g_J0_length_8abf5 {E : fh_E} {M : fh_M} (C : fh_Cx E M cJ0_length_8abf5 1 RJ0 ((some FieldType.int)) rm_J0_length_8abf5) (Hr : fh_Rt E M) (i1 : Nat) (σ2 : fh_S) : fh_Go E M 1 fh_vI 0 [(0, .ref (fh_aK E i1))] [] σ2 (f_J0_length_8abf5 i1 σ2) := by
  have hok := fh_cok C
  refine go_sg (fun hgi1 => ?_)
  refine go_aload_n C 0 rfl rfl dJ0_length_8abf5_0 ?_
  refine go_sval C hgi1 q_1244 dJ0_length_8abf5_1 ?_
  refine go_slen C hgi1 dJ0_length_8abf5_4 ?_
  refine go_aload_n C 0 rfl rfl dJ0_length_8abf5_5 ?_
  refine go_callXI C (st := [.int (Int32.ofNat (fh_sl i1))]) [] (m_J0_coder_7d493 E _ hok i1 σ2) (fun _ h => fh_sg_ok h) rfl rfl ⟨q_570, q_571, q_572, q_10, q_573⟩ pd_J0_coder_7d493 rfl ⟨⟨Nat.le_of_ble_eq_true rfl, Nat.le_of_ble_eq_true rfl⟩, rfl, rfl⟩ (Nat.le_of_ble_eq_true rfl) dJ0_length_8abf5_6 (fun r4 σ3 => ?_)
  refine go_ishr C dJ0_length_8abf5_9 ?_
  exact go_iret C Hr rfl dJ0_length_8abf5_10
theorem m_J0_length_8abf5 (E : fh_E) (l : Launch) (hok : fh_ok E) (i1 : Nat) (σ2 : fh_S) : fh_Met E l yJ0_length_8abf5 cJ0_length_8abf5 1 ((some FieldType.int)) rm_J0_length_8abf5 fh_vI [.ref (fh_aK E i1)] σ2 (f_J0_length_8abf5 i1 σ2) := fh_met hok (by decide +kernel) (Nat.le_of_ble_eq_true rfl) (fun M _ C Hr => g_J0_length_8abf5 C Hr i1 σ2)
def f_X1_isWord_B28 (i2 : Nat) (k1 : Nat) (r11 : Int32 → fh_S → Option (Int32 × fh_S)) : Int32 → fh_S → Option (Int32 × fh_S) := fun x9 σ10 => fh_cb (f_J0_length_8abf5 i2 σ10) fun r13 σ12 => if r13 ≤ x9 then fh_rz ((1 : Int32)) σ12 else (fh_gr 1 k1 0).bind fun k14 => (fh_gi σ12 1 k1 2).bind fun v15 => fh_cb (f_X3_byteAt k14 (v15 + x9) σ12) fun r17 σ16 => fh_cb (f_J0_charAt_5068e i2 x9 σ16) fun r19 σ18 => if r17 = r19 then r11 (x9 + 1) σ18 else fh_rz ((0 : Int32)) σ18
def f_X1_isWord (k1 : Nat) (i2 : Nat) (σ3 : fh_S) : Option (Int32 × fh_S) := fh_ob 1 k1 ((fh_gi σ3 1 k1 1).bind fun v4 => if v4 = ((1 : Int32)) then (fh_gi σ3 1 k1 3).bind fun v5 => (fh_gi σ3 1 k1 2).bind fun v6 => fh_cb (f_J0_length_8abf5 i2 σ3) fun r8 σ7 => if (v5 - v6) = r8 then fh_fx (ρ := Int32 → fh_S → Option (Int32 × fh_S)) (fun _ _ => none) (f_X1_isWord_B28 i2 k1) fh_fu ((0 : Int32)) σ7 else fh_rz ((0 : Int32)) σ7 else fh_rz ((0 : Int32)) σ3)
abbrev rm_X1_isWord : Room := { frames := 4, cells := 0, slots := 0, locals := 85 }
theorem pd_X1_isWord : yX1_isWord.cls ≠ "java/lang/invoke/MethodHandle" ∧ yX1_isWord.cls ≠ "java/lang/invoke/VarHandle" ∧ (parseMethodDescriptor yX1_isWord.desc).map (fun d => d.parameters.length) = some 1 := by decide +kernel
theorem dX1_isWord_0 : decode cX1_isWord 0 = .ok (.aload_n 0, 1) := by decide +kernel
theorem dX1_isWord_1 : decode cX1_isWord 1 = .ok (.getfield 42, 3) := by decide +kernel
theorem dX1_isWord_4 : decode cX1_isWord 4 = .ok (.iconst 1, 1) := by decide +kernel
theorem dX1_isWord_5 : decode cX1_isWord 5 = .ok (.if_icmp .ne 19, 3) := by decide +kernel
theorem dX1_isWord_8 : decode cX1_isWord 8 = .ok (.aload_n 0, 1) := by decide +kernel
theorem dX1_isWord_9 : decode cX1_isWord 9 = .ok (.getfield 19, 3) := by decide +kernel
theorem dX1_isWord_12 : decode cX1_isWord 12 = .ok (.aload_n 0, 1) := by decide +kernel
theorem dX1_isWord_13 : decode cX1_isWord 13 = .ok (.getfield 95, 3) := by decide +kernel
theorem dX1_isWord_16 : decode cX1_isWord 16 = .ok (.isub, 1) := by decide +kernel
theorem dX1_isWord_17 : decode cX1_isWord 17 = .ok (.aload_n 1, 1) := by decide +kernel
theorem dX1_isWord_18 : decode cX1_isWord 18 = .ok (.invokevirtual 109, 3) := by decide +kernel
theorem dX1_isWord_21 : decode cX1_isWord 21 = .ok (.if_icmp .eq 5, 3) := by decide +kernel
theorem dX1_isWord_24 : decode cX1_isWord 24 = .ok (.iconst 0, 1) := by decide +kernel
theorem dX1_isWord_25 : decode cX1_isWord 25 = .ok (.ireturn, 1) := by decide +kernel
theorem dX1_isWord_26 : decode cX1_isWord 26 = .ok (.iconst 0, 1) := by decide +kernel
theorem dX1_isWord_27 : decode cX1_isWord 27 = .ok (.istore_n 2, 1) := by decide +kernel
theorem dX1_isWord_28 : decode cX1_isWord 28 = .ok (.iload_n 2, 1) := by decide +kernel
theorem dX1_isWord_29 : decode cX1_isWord 29 = .ok (.aload_n 1, 1) := by decide +kernel
theorem dX1_isWord_30 : decode cX1_isWord 30 = .ok (.invokevirtual 109, 3) := by decide +kernel
theorem dX1_isWord_33 : decode cX1_isWord 33 = .ok (.if_icmp .ge 32, 3) := by decide +kernel
theorem dX1_isWord_36 : decode cX1_isWord 36 = .ok (.aload_n 0, 1) := by decide +kernel
theorem dX1_isWord_37 : decode cX1_isWord 37 = .ok (.getfield 9, 3) := by decide +kernel
theorem dX1_isWord_40 : decode cX1_isWord 40 = .ok (.aload_n 0, 1) := by decide +kernel
theorem dX1_isWord_41 : decode cX1_isWord 41 = .ok (.getfield 95, 3) := by decide +kernel
theorem dX1_isWord_44 : decode cX1_isWord 44 = .ok (.iload_n 2, 1) := by decide +kernel
theorem dX1_isWord_45 : decode cX1_isWord 45 = .ok (.iadd, 1) := by decide +kernel
theorem dX1_isWord_46 : decode cX1_isWord 46 = .ok (.invokevirtual 101, 3) := by decide +kernel
theorem dX1_isWord_49 : decode cX1_isWord 49 = .ok (.aload_n 1, 1) := by decide +kernel
theorem dX1_isWord_50 : decode cX1_isWord 50 = .ok (.iload_n 2, 1) := by decide +kernel
theorem dX1_isWord_51 : decode cX1_isWord 51 = .ok (.invokevirtual 114, 3) := by decide +kernel
theorem dX1_isWord_54 : decode cX1_isWord 54 = .ok (.if_icmp .eq 5, 3) := by decide +kernel
theorem dX1_isWord_57 : decode cX1_isWord 57 = .ok (.iconst 0, 1) := by decide +kernel
theorem dX1_isWord_58 : decode cX1_isWord 58 = .ok (.ireturn, 1) := by decide +kernel
theorem dX1_isWord_59 : decode cX1_isWord 59 = .ok (.iinc 2 1, 3) := by decide +kernel
theorem dX1_isWord_62 : decode cX1_isWord 62 = .ok (.goto (-34), 3) := by decide +kernel
theorem dX1_isWord_65 : decode cX1_isWord 65 = .ok (.iconst 1, 1) := by decide +kernel
theorem dX1_isWord_66 : decode cX1_isWord 66 = .ok (.ireturn, 1) := by decide +kernel
set_option maxHeartbeats 4000000 in
set_option maxRecDepth 100000 in
theorem g_X1_isWord {E : fh_E} {M : fh_M} (C : fh_Cx E M cX1_isWord 3 RX1 ((some FieldType.boolean)) rm_X1_isWord) (Hr : fh_Rt E M) (k1 : Nat) (i2 : Nat) (σ3 : fh_S) : fh_Go E M 3 fh_vI 0 [(0, .ref (fh_ad E k1)), (1, .ref (fh_aK E i2))] [] σ3 (f_X1_isWord k1 i2 σ3) := by
  have hok := fh_cok C
  refine go_ob ?_
  refine go_aload_n C 0 rfl rfl dX1_isWord_0 ?_
  refine go_gi (ci := 1) (j := 1) C fh_in1 rfl (by decide) rfl q_100 dX1_isWord_1 (fun v4 => ?_)
  refine go_iconst C (1 : Int32) dX1_isWord_4 rfl ?_
  refine go_icmp_ne (tgt := 24) C dX1_isWord_5 rfl (fun _ => ?_) (fun _ => ?_)
  · refine go_iconst C (0 : Int32) dX1_isWord_24 rfl ?_
    exact go_zret C Hr dX1_isWord_25
  · refine go_aload_n C 0 rfl rfl dX1_isWord_8 ?_
    refine go_gi (ci := 1) (j := 3) C fh_in1 rfl (by decide) rfl q_102 dX1_isWord_9 (fun v5 => ?_)
    refine go_aload_n C 0 rfl rfl dX1_isWord_12 ?_
    refine go_gi (ci := 1) (j := 2) C fh_in1 rfl (by decide) rfl q_101 dX1_isWord_13 (fun v6 => ?_)
    refine go_isub C dX1_isWord_16 ?_
    refine go_aload_n C 1 rfl rfl dX1_isWord_17 ?_
    refine go_callXI C (st := [.int (v5 - v6)]) [] (m_J0_length_8abf5 E _ hok i2 σ3) (fun _ h => fh_sg_ok h) rfl rfl ⟨q_566, q_567, q_568, q_10, q_569⟩ pd_J0_length_8abf5 rfl ⟨⟨Nat.le_of_ble_eq_true rfl, Nat.le_of_ble_eq_true rfl⟩, rfl, rfl⟩ (Nat.le_of_ble_eq_true rfl) dX1_isWord_18 (fun r8 σ7 => ?_)
    refine go_icmp_eq (tgt := 26) C dX1_isWord_21 rfl (fun _ => ?_) (fun _ => ?_)
    · refine go_iconst C (0 : Int32) dX1_isWord_26 rfl ?_
      refine go_istore_n C [(2, .int ((0 : Int32))), (0, .ref (fh_ad E k1)), (1, .ref (fh_aK E i2))] rfl rfl (by decide) dX1_isWord_27 ?_
      refine go_lv [1, 2, 0] (lv' := [(0, .ref (fh_ad E k1)), (1, .ref (fh_aK E i2)), (2, .int ((0 : Int32)))]) rfl ?_
      refine go_fx (fun (r11 : Int32 → fh_S → Option (Int32 × fh_S)) => ∀ (x9 : Int32) (σ10 : fh_S), fh_Go E M 3 fh_vI 28 [(0, .ref (fh_ad E k1)), (1, .ref (fh_aK E i2)), (2, .int x9)] [] σ10 (r11 x9 σ10)) ?_ ?_ fh_fu ((0 : Int32)) σ7
      · intro x9 σ10
        exact go_none
      · intro r11 hr11 x9 σ10
        refine go_iload_n C 2 rfl rfl dX1_isWord_28 ?_
        refine go_aload_n C 1 rfl rfl dX1_isWord_29 ?_
        refine go_callXI C (st := [.int x9]) [] (m_J0_length_8abf5 E _ hok i2 σ10) (fun _ h => fh_sg_ok h) rfl rfl ⟨q_566, q_567, q_568, q_10, q_569⟩ pd_J0_length_8abf5 rfl ⟨⟨Nat.le_of_ble_eq_true rfl, Nat.le_of_ble_eq_true rfl⟩, rfl, rfl⟩ (Nat.le_of_ble_eq_true rfl) dX1_isWord_30 (fun r13 σ12 => ?_)
        refine go_icmp_ge (tgt := 65) C dX1_isWord_33 rfl (fun _ => ?_) (fun _ => ?_)
        · refine go_iconst C (1 : Int32) dX1_isWord_65 rfl ?_
          exact go_zret C Hr dX1_isWord_66
        · refine go_aload_n C 0 rfl rfl dX1_isWord_36 ?_
          refine go_gr (ci := 1) (j := 0) C fh_in1 rfl (by decide) rfl q_99 dX1_isWord_37 (fun k14 => ?_)
          refine go_aload_n C 0 rfl rfl dX1_isWord_40 ?_
          refine go_gi (ci := 1) (j := 2) C fh_in1 rfl (by decide) rfl q_101 dX1_isWord_41 (fun v15 => ?_)
          refine go_iload_n C 2 rfl rfl dX1_isWord_44 ?_
          refine go_iadd C dX1_isWord_45 ?_
          refine go_callVI C (st := []) [.int (v15 + x9)] (m_X3_byteAt E _ hok k14 (v15 + x9) σ12) (fun _ h => fh_ob_ok h) rfl rfl ⟨q_538, q_539, q_540, q_3, q_541⟩ pd_X3_byteAt rfl ⟨⟨Nat.le_of_ble_eq_true rfl, Nat.le_of_ble_eq_true rfl⟩, rfl, rfl⟩ (Nat.le_of_ble_eq_true rfl) dX1_isWord_46 (fun r17 σ16 => ?_)
          refine go_aload_n C 1 rfl rfl dX1_isWord_49 ?_
          refine go_iload_n C 2 rfl rfl dX1_isWord_50 ?_
          refine go_callXI C (st := [.int r17]) [.int x9] (m_J0_charAt_5068e E _ hok i2 x9 σ16) (fun _ h => fh_sg_ok h) rfl rfl ⟨q_576, q_577, q_578, q_10, q_579⟩ pd_J0_charAt_5068e rfl ⟨⟨Nat.le_of_ble_eq_true rfl, Nat.le_of_ble_eq_true rfl⟩, rfl, rfl⟩ (Nat.le_of_ble_eq_true rfl) dX1_isWord_51 (fun r19 σ18 => ?_)
          refine go_icmp_eq (tgt := 59) C dX1_isWord_54 rfl (fun _ => ?_) (fun _ => ?_)
          · refine go_iinc C (x9 + 1) 2 [(2, .int (x9 + 1)), (0, .ref (fh_ad E k1)), (1, .ref (fh_aK E i2))] rfl rfl rfl (by decide) dX1_isWord_59 ?_
            refine go_goto C 28 dX1_isWord_62 rfl ?_
            refine go_lv [1, 2, 0] (lv' := [(0, .ref (fh_ad E k1)), (1, .ref (fh_aK E i2)), (2, .int (x9 + 1))]) rfl ?_
            exact hr11 (x9 + 1) σ18
          · refine go_iconst C (0 : Int32) dX1_isWord_57 rfl ?_
            exact go_zret C Hr dX1_isWord_58
    · refine go_iconst C (0 : Int32) dX1_isWord_24 rfl ?_
      exact go_zret C Hr dX1_isWord_25
theorem m_X1_isWord (E : fh_E) (l : Launch) (hok : fh_ok E) (k1 : Nat) (i2 : Nat) (σ3 : fh_S) : fh_Met E l yX1_isWord cX1_isWord 3 ((some FieldType.boolean)) rm_X1_isWord fh_vI [.ref (fh_ad E k1), .ref (fh_aK E i2)] σ3 (f_X1_isWord k1 i2 σ3) := fh_met hok (by decide +kernel) (Nat.le_of_ble_eq_true rfl) (fun M _ C Hr => g_X1_isWord C Hr k1 i2 σ3)
def f_X1_wordOfKind (a1 : Int32) (σ2 : fh_S) : Option (Nat × fh_S) := if a1 = (1 : Int32) then some (1, σ2) else if a1 = (2 : Int32) then some (2, σ2) else if a1 = (3 : Int32) then some (3, σ2) else if a1 = (4 : Int32) then some (4, σ2) else if a1 = (5 : Int32) then some (5, σ2) else if a1 = (6 : Int32) then some (6, σ2) else some (0, σ2)
abbrev rm_X1_wordOfKind : Room := { frames := 0, cells := 0, slots := 0, locals := 0 }
theorem pd_X1_wordOfKind : yX1_wordOfKind.cls ≠ "java/lang/invoke/MethodHandle" ∧ yX1_wordOfKind.cls ≠ "java/lang/invoke/VarHandle" ∧ (parseMethodDescriptor yX1_wordOfKind.desc).map (fun d => d.parameters.length) = some 1 := by decide +kernel
theorem dX1_wordOfKind_0 : decode cX1_wordOfKind 0 = .ok (.iload_n 0, 1) := by decide +kernel
theorem dX1_wordOfKind_1 : decode cX1_wordOfKind 1 = .ok (.tableswitch 57 1 6 #[39, 42, 45, 48, 51, 54], 39) := by decide +kernel
theorem dX1_wordOfKind_40 : decode cX1_wordOfKind 40 = .ok (.ldc 125, 2) := by decide +kernel
theorem dX1_wordOfKind_42 : decode cX1_wordOfKind 42 = .ok (.areturn, 1) := by decide +kernel
theorem dX1_wordOfKind_43 : decode cX1_wordOfKind 43 = .ok (.ldc 127, 2) := by decide +kernel
theorem dX1_wordOfKind_45 : decode cX1_wordOfKind 45 = .ok (.areturn, 1) := by decide +kernel
theorem dX1_wordOfKind_46 : decode cX1_wordOfKind 46 = .ok (.ldc 129, 2) := by decide +kernel
theorem dX1_wordOfKind_48 : decode cX1_wordOfKind 48 = .ok (.areturn, 1) := by decide +kernel
theorem dX1_wordOfKind_49 : decode cX1_wordOfKind 49 = .ok (.ldc 131, 2) := by decide +kernel
theorem dX1_wordOfKind_51 : decode cX1_wordOfKind 51 = .ok (.areturn, 1) := by decide +kernel
theorem dX1_wordOfKind_52 : decode cX1_wordOfKind 52 = .ok (.ldc 133, 2) := by decide +kernel
theorem dX1_wordOfKind_54 : decode cX1_wordOfKind 54 = .ok (.areturn, 1) := by decide +kernel
theorem dX1_wordOfKind_55 : decode cX1_wordOfKind 55 = .ok (.ldc 135, 2) := by decide +kernel
theorem dX1_wordOfKind_57 : decode cX1_wordOfKind 57 = .ok (.areturn, 1) := by decide +kernel
theorem dX1_wordOfKind_58 : decode cX1_wordOfKind 58 = .ok (.ldc 137, 2) := by decide +kernel
theorem dX1_wordOfKind_60 : decode cX1_wordOfKind 60 = .ok (.areturn, 1) := by decide +kernel
set_option maxHeartbeats 4000000 in
set_option maxRecDepth 100000 in
theorem g_X1_wordOfKind {E : fh_E} {M : fh_M} (C : fh_Cx E M cX1_wordOfKind 1 RX1 ((some (FieldType.object "java/lang/String"))) rm_X1_wordOfKind) (Hr : fh_Rt E M) (a1 : Int32) (σ2 : fh_S) : fh_Go E M 1 (fh_vS E) 0 [(0, .int a1)] [] σ2 (f_X1_wordOfKind a1 σ2) := by
  have hok := fh_cok C
  refine go_iload_n C 0 rfl rfl dX1_wordOfKind_0 ?_
  refine go_sw C (1 : Int32) 40 dX1_wordOfKind_1 (by decide) (by decide) rfl rfl ?_ (fun hn3 => ?_)
  · refine go_ldcS C 1 rfl dX1_wordOfKind_40 ?_
    exact go_aretS C Hr rfl dX1_wordOfKind_42
  refine go_sw C (2 : Int32) 43 dX1_wordOfKind_1 (by decide) (by decide) rfl rfl ?_ (fun hn4 => ?_)
  · refine go_ldcS C 2 rfl dX1_wordOfKind_43 ?_
    exact go_aretS C Hr rfl dX1_wordOfKind_45
  refine go_sw C (3 : Int32) 46 dX1_wordOfKind_1 (by decide) (by decide) rfl rfl ?_ (fun hn5 => ?_)
  · refine go_ldcS C 3 rfl dX1_wordOfKind_46 ?_
    exact go_aretS C Hr rfl dX1_wordOfKind_48
  refine go_sw C (4 : Int32) 49 dX1_wordOfKind_1 (by decide) (by decide) rfl rfl ?_ (fun hn6 => ?_)
  · refine go_ldcS C 4 rfl dX1_wordOfKind_49 ?_
    exact go_aretS C Hr rfl dX1_wordOfKind_51
  refine go_sw C (5 : Int32) 52 dX1_wordOfKind_1 (by decide) (by decide) rfl rfl ?_ (fun hn7 => ?_)
  · refine go_ldcS C 5 rfl dX1_wordOfKind_52 ?_
    exact go_aretS C Hr rfl dX1_wordOfKind_54
  refine go_sw C (6 : Int32) 55 dX1_wordOfKind_1 (by decide) (by decide) rfl rfl ?_ (fun hn8 => ?_)
  · refine go_ldcS C 6 rfl dX1_wordOfKind_55 ?_
    exact go_aretS C Hr rfl dX1_wordOfKind_57
  refine go_swd C 58 dX1_wordOfKind_1 (by have hh0 := fh_ne (z := 1) hn3 (by decide); have hh1 := fh_ne (z := 2) hn4 (by decide); have hh2 := fh_ne (z := 3) hn5 (by decide); have hh3 := fh_ne (z := 4) hn6 (by decide); have hh4 := fh_ne (z := 5) hn7 (by decide); have hh5 := fh_ne (z := 6) hn8 (by decide); omega) rfl ?_
  refine go_ldcS C 0 rfl dX1_wordOfKind_58 ?_
  exact go_aretS C Hr rfl dX1_wordOfKind_60
theorem m_X1_wordOfKind (E : fh_E) (l : Launch) (hok : fh_ok E) (a1 : Int32) (σ2 : fh_S) : fh_Met E l yX1_wordOfKind cX1_wordOfKind 1 ((some (FieldType.object "java/lang/String"))) rm_X1_wordOfKind (fh_vS E) [.int a1] σ2 (f_X1_wordOfKind a1 σ2) := fh_met hok (by decide +kernel) (Nat.le_of_ble_eq_true rfl) (fun M _ C Hr => g_X1_wordOfKind C Hr a1 σ2)
def f_X1_kindOfWord_B2 (k1 : Nat) (r5 : Int32 → fh_S → Option (Int32 × fh_S)) : Int32 → fh_S → Option (Int32 × fh_S) := fun x3 σ4 => if ((7 : Int32)) ≤ x3 then some ((-1 : Int32), σ4) else fh_cb (f_X1_wordOfKind x3 σ4) fun r7 σ6 => fh_cb (f_X1_isWord k1 r7 σ6) fun r9 σ8 => if r9 = 0 then r5 (x3 + 1) σ8 else some (x3, σ8)
def f_X1_kindOfWord (k1 : Nat) (σ2 : fh_S) : Option (Int32 × fh_S) := fh_ob 1 k1 (fh_fx (ρ := Int32 → fh_S → Option (Int32 × fh_S)) (fun _ _ => none) (f_X1_kindOfWord_B2 k1) fh_fu ((0 : Int32)) σ2)
abbrev rm_X1_kindOfWord : Room := { frames := 5, cells := 0, slots := 0, locals := 107 }
theorem pd_X1_kindOfWord : yX1_kindOfWord.cls ≠ "java/lang/invoke/MethodHandle" ∧ yX1_kindOfWord.cls ≠ "java/lang/invoke/VarHandle" ∧ (parseMethodDescriptor yX1_kindOfWord.desc).map (fun d => d.parameters.length) = some 0 := by decide +kernel
theorem dX1_kindOfWord_0 : decode cX1_kindOfWord 0 = .ok (.iconst 0, 1) := by decide +kernel
theorem dX1_kindOfWord_1 : decode cX1_kindOfWord 1 = .ok (.istore_n 1, 1) := by decide +kernel
theorem dX1_kindOfWord_2 : decode cX1_kindOfWord 2 = .ok (.iload_n 1, 1) := by decide +kernel
theorem dX1_kindOfWord_3 : decode cX1_kindOfWord 3 = .ok (.getstatic 118, 3) := by decide +kernel
theorem dX1_kindOfWord_6 : decode cX1_kindOfWord 6 = .ok (.arraylength, 1) := by decide +kernel
theorem dX1_kindOfWord_7 : decode cX1_kindOfWord 7 = .ok (.if_icmp .ge 22, 3) := by decide +kernel
theorem dX1_kindOfWord_10 : decode cX1_kindOfWord 10 = .ok (.aload_n 0, 1) := by decide +kernel
theorem dX1_kindOfWord_11 : decode cX1_kindOfWord 11 = .ok (.iload_n 1, 1) := by decide +kernel
theorem dX1_kindOfWord_12 : decode cX1_kindOfWord 12 = .ok (.invokestatic 121, 3) := by decide +kernel
theorem dX1_kindOfWord_15 : decode cX1_kindOfWord 15 = .ok (.invokevirtual 98, 3) := by decide +kernel
theorem dX1_kindOfWord_18 : decode cX1_kindOfWord 18 = .ok (.ifCond .eq 5, 3) := by decide +kernel
theorem dX1_kindOfWord_21 : decode cX1_kindOfWord 21 = .ok (.iload_n 1, 1) := by decide +kernel
theorem dX1_kindOfWord_22 : decode cX1_kindOfWord 22 = .ok (.ireturn, 1) := by decide +kernel
theorem dX1_kindOfWord_23 : decode cX1_kindOfWord 23 = .ok (.iinc 1 1, 3) := by decide +kernel
theorem dX1_kindOfWord_26 : decode cX1_kindOfWord 26 = .ok (.goto (-24), 3) := by decide +kernel
theorem dX1_kindOfWord_29 : decode cX1_kindOfWord 29 = .ok (.iconst (-1), 1) := by decide +kernel
theorem dX1_kindOfWord_30 : decode cX1_kindOfWord 30 = .ok (.ireturn, 1) := by decide +kernel
set_option maxHeartbeats 4000000 in
set_option maxRecDepth 100000 in
theorem g_X1_kindOfWord {E : fh_E} {M : fh_M} (C : fh_Cx E M cX1_kindOfWord 2 RX1 ((some FieldType.int)) rm_X1_kindOfWord) (Hr : fh_Rt E M) (k1 : Nat) (σ2 : fh_S) : fh_Go E M 2 fh_vI 0 [(0, .ref (fh_ad E k1))] [] σ2 (f_X1_kindOfWord k1 σ2) := by
  have hok := fh_cok C
  refine go_ob ?_
  refine go_iconst C (0 : Int32) dX1_kindOfWord_0 rfl ?_
  refine go_istore_n C [(1, .int ((0 : Int32))), (0, .ref (fh_ad E k1))] rfl rfl (by decide) dX1_kindOfWord_1 ?_
  refine go_lv [1, 0] (lv' := [(0, .ref (fh_ad E k1)), (1, .int ((0 : Int32)))]) rfl ?_
  refine go_fx (fun (r5 : Int32 → fh_S → Option (Int32 × fh_S)) => ∀ (x3 : Int32) (σ4 : fh_S), fh_Go E M 2 fh_vI 2 [(0, .ref (fh_ad E k1)), (1, .int x3)] [] σ4 (r5 x3 σ4)) ?_ ?_ fh_fu ((0 : Int32)) σ2
  · intro x3 σ4
    exact go_none
  · intro r5 hr5 x3 σ4
    refine go_iload_n C 1 rfl rfl dX1_kindOfWord_2 ?_
    refine go_tuN C (List.mem_of_getElem? (i := 8) rfl) dX1_kindOfWord_3 ?_
    refine go_tl C dX1_kindOfWord_6 ?_
    refine go_icmp_ge (tgt := 29) C dX1_kindOfWord_7 rfl (fun _ => ?_) (fun _ => ?_)
    · refine go_iconst C (-1 : Int32) dX1_kindOfWord_29 rfl ?_
      exact go_iret C Hr rfl dX1_kindOfWord_30
    · refine go_aload_n C 0 rfl rfl dX1_kindOfWord_10 ?_
      refine go_iload_n C 1 rfl rfl dX1_kindOfWord_11 ?_
      refine go_callSG C (st := [.ref (fh_ad E k1)]) [.int x3] (m_X1_wordOfKind E _ hok x3 σ4) rfl ⟨q_635, q_636, q_4, q_637⟩ pd_X1_wordOfKind rfl ⟨⟨Nat.le_of_ble_eq_true rfl, Nat.le_of_ble_eq_true rfl⟩, rfl, rfl⟩ (Nat.le_of_ble_eq_true rfl) dX1_kindOfWord_12 (fun r7 σ6 => ?_)
      refine go_callVI C (st := []) [.ref (fh_aK E r7)] (m_X1_isWord E _ hok k1 r7 σ6) (fun _ h => fh_ob_ok h) rfl rfl ⟨q_562, q_564, qs_12, q_4, q_565⟩ pd_X1_isWord rfl ⟨⟨Nat.le_of_ble_eq_true rfl, Nat.le_of_ble_eq_true rfl⟩, rfl, rfl⟩ (Nat.le_of_ble_eq_true rfl) dX1_kindOfWord_15 (fun r9 σ8 => ?_)
      refine go_if_eq (tgt := 23) C dX1_kindOfWord_18 rfl (fun _ => ?_) (fun _ => ?_)
      · refine go_iinc C (x3 + 1) 1 [(1, .int (x3 + 1)), (0, .ref (fh_ad E k1))] rfl rfl rfl (by decide) dX1_kindOfWord_23 ?_
        refine go_goto C 2 dX1_kindOfWord_26 rfl ?_
        refine go_lv [1, 0] (lv' := [(0, .ref (fh_ad E k1)), (1, .int (x3 + 1))]) rfl ?_
        exact hr5 (x3 + 1) σ8
      · refine go_iload_n C 1 rfl rfl dX1_kindOfWord_21 ?_
        exact go_iret C Hr rfl dX1_kindOfWord_22
theorem m_X1_kindOfWord (E : fh_E) (l : Launch) (hok : fh_ok E) (k1 : Nat) (σ2 : fh_S) : fh_Met E l yX1_kindOfWord cX1_kindOfWord 2 ((some FieldType.int)) rm_X1_kindOfWord fh_vI [.ref (fh_ad E k1)] σ2 (f_X1_kindOfWord k1 σ2) := fh_met hok (by decide +kernel) (Nat.le_of_ble_eq_true rfl) (fun M _ C Hr => g_X1_kindOfWord C Hr k1 σ2)
def f_X1_refuse (k1 : Nat) (σ2 : fh_S) : Option (Unit × fh_S) := fh_ob 1 k1 ((fh_gi σ2 1 k1 5).bind fun v3 => if v3 = ((-1 : Int32)) then (fh_gi σ2 1 k1 2).bind fun v4 => (fh_pf σ2 1 k1 5 v4).bind fun σ5 => some ((), σ5) else some ((), σ2))
abbrev rm_X1_refuse : Room := { frames := 0, cells := 0, slots := 0, locals := 0 }
theorem pd_X1_refuse : yX1_refuse.cls ≠ "java/lang/invoke/MethodHandle" ∧ yX1_refuse.cls ≠ "java/lang/invoke/VarHandle" ∧ (parseMethodDescriptor yX1_refuse.desc).map (fun d => d.parameters.length) = some 0 := by decide +kernel
theorem dX1_refuse_0 : decode cX1_refuse 0 = .ok (.aload_n 0, 1) := by decide +kernel
theorem dX1_refuse_1 : decode cX1_refuse 1 = .ok (.getfield 15, 3) := by decide +kernel
theorem dX1_refuse_4 : decode cX1_refuse 4 = .ok (.iconst (-1), 1) := by decide +kernel
theorem dX1_refuse_5 : decode cX1_refuse 5 = .ok (.if_icmp .ne 11, 3) := by decide +kernel
theorem dX1_refuse_8 : decode cX1_refuse 8 = .ok (.aload_n 0, 1) := by decide +kernel
theorem dX1_refuse_9 : decode cX1_refuse 9 = .ok (.aload_n 0, 1) := by decide +kernel
theorem dX1_refuse_10 : decode cX1_refuse 10 = .ok (.getfield 95, 3) := by decide +kernel
theorem dX1_refuse_13 : decode cX1_refuse 13 = .ok (.putfield 15, 3) := by decide +kernel
theorem dX1_refuse_16 : decode cX1_refuse 16 = .ok (.return_, 1) := by decide +kernel
set_option maxHeartbeats 4000000 in
set_option maxRecDepth 100000 in
theorem g_X1_refuse {E : fh_E} {M : fh_M} (C : fh_Cx E M cX1_refuse 1 RX1 (none) rm_X1_refuse) (Hr : fh_Rt E M) (k1 : Nat) (σ2 : fh_S) : fh_Go E M 1 fh_vU 0 [(0, .ref (fh_ad E k1))] [] σ2 (f_X1_refuse k1 σ2) := by
  have hok := fh_cok C
  refine go_ob ?_
  refine go_aload_n C 0 rfl rfl dX1_refuse_0 ?_
  refine go_gi (ci := 1) (j := 5) C fh_in1 rfl (by decide) rfl q_104 dX1_refuse_1 (fun v3 => ?_)
  refine go_iconst C (-1 : Int32) dX1_refuse_4 rfl ?_
  refine go_icmp_ne (tgt := 16) C dX1_refuse_5 rfl (fun _ => ?_) (fun _ => ?_)
  · exact go_vret C Hr rfl dX1_refuse_16
  · refine go_aload_n C 0 rfl rfl dX1_refuse_8 ?_
    refine go_aload_n C 0 rfl rfl dX1_refuse_9 ?_
    refine go_gi (ci := 1) (j := 2) C fh_in1 rfl (by decide) rfl q_101 dX1_refuse_10 (fun v4 => ?_)
    refine go_pf (ci := 1) (j := 5) C tyX1 tyX1_ok nmX1 fh_in1 rfl (by decide) rfl q_104 rfl rfl dX1_refuse_13 (fun σ5 => ?_)
    exact go_vret C Hr rfl dX1_refuse_16
theorem m_X1_refuse (E : fh_E) (l : Launch) (hok : fh_ok E) (k1 : Nat) (σ2 : fh_S) : fh_Met E l yX1_refuse cX1_refuse 1 (none) rm_X1_refuse fh_vU [.ref (fh_ad E k1)] σ2 (f_X1_refuse k1 σ2) := fh_met hok (by decide +kernel) (Nat.le_of_ble_eq_true rfl) (fun M _ C Hr => g_X1_refuse C Hr k1 σ2)
def f_X1_takeNumber_J24 (k1 : Nat) : fh_S → Option (Int32 × fh_S) := fun σ5 => fh_cb (f_X1_refuse k1 σ5) fun _ σ6 => some ((0 : Int32), σ6)
def f_X1_takeNumber (k1 : Nat) (a2 : Int32) (σ3 : fh_S) : Option (Int32 × fh_S) := fh_ob 1 k1 ((fh_gi σ3 1 k1 5).bind fun v4 => fh_jn (f_X1_takeNumber_J24 k1) (fun j7 => if v4 = ((-1 : Int32)) then (fh_gi σ3 1 k1 1).bind fun v8 => if v8 = ((2 : Int32)) then (fh_gi σ3 1 k1 4).bind fun v9 => if v9 ≤ a2 then (fh_gi σ3 1 k1 4).bind fun v10 => fh_cb (f_X1_findToken k1 σ3) fun _ σ11 => some (v10, σ11) else j7 σ3 else j7 σ3 else j7 σ3))
abbrev rm_X1_takeNumber : Room := { frames := 3, cells := 0, slots := 0, locals := 62 }
theorem pd_X1_takeNumber : yX1_takeNumber.cls ≠ "java/lang/invoke/MethodHandle" ∧ yX1_takeNumber.cls ≠ "java/lang/invoke/VarHandle" ∧ (parseMethodDescriptor yX1_takeNumber.desc).map (fun d => d.parameters.length) = some 1 := by decide +kernel
theorem dX1_takeNumber_0 : decode cX1_takeNumber 0 = .ok (.aload_n 0, 1) := by decide +kernel
theorem dX1_takeNumber_1 : decode cX1_takeNumber 1 = .ok (.getfield 15, 3) := by decide +kernel
theorem dX1_takeNumber_4 : decode cX1_takeNumber 4 = .ok (.iconst (-1), 1) := by decide +kernel
theorem dX1_takeNumber_5 : decode cX1_takeNumber 5 = .ok (.if_icmp .ne 19, 3) := by decide +kernel
theorem dX1_takeNumber_8 : decode cX1_takeNumber 8 = .ok (.aload_n 0, 1) := by decide +kernel
theorem dX1_takeNumber_9 : decode cX1_takeNumber 9 = .ok (.getfield 42, 3) := by decide +kernel
theorem dX1_takeNumber_12 : decode cX1_takeNumber 12 = .ok (.iconst 2, 1) := by decide +kernel
theorem dX1_takeNumber_13 : decode cX1_takeNumber 13 = .ok (.if_icmp .ne 11, 3) := by decide +kernel
theorem dX1_takeNumber_16 : decode cX1_takeNumber 16 = .ok (.aload_n 0, 1) := by decide +kernel
theorem dX1_takeNumber_17 : decode cX1_takeNumber 17 = .ok (.getfield 106, 3) := by decide +kernel
theorem dX1_takeNumber_20 : decode cX1_takeNumber 20 = .ok (.iload_n 1, 1) := by decide +kernel
theorem dX1_takeNumber_21 : decode cX1_takeNumber 21 = .ok (.if_icmp .le 9, 3) := by decide +kernel
theorem dX1_takeNumber_24 : decode cX1_takeNumber 24 = .ok (.aload_n 0, 1) := by decide +kernel
theorem dX1_takeNumber_25 : decode cX1_takeNumber 25 = .ok (.invokevirtual 45, 3) := by decide +kernel
theorem dX1_takeNumber_28 : decode cX1_takeNumber 28 = .ok (.iconst 0, 1) := by decide +kernel
theorem dX1_takeNumber_29 : decode cX1_takeNumber 29 = .ok (.ireturn, 1) := by decide +kernel
theorem dX1_takeNumber_30 : decode cX1_takeNumber 30 = .ok (.aload_n 0, 1) := by decide +kernel
theorem dX1_takeNumber_31 : decode cX1_takeNumber 31 = .ok (.getfield 106, 3) := by decide +kernel
theorem dX1_takeNumber_34 : decode cX1_takeNumber 34 = .ok (.istore_n 2, 1) := by decide +kernel
theorem dX1_takeNumber_35 : decode cX1_takeNumber 35 = .ok (.aload_n 0, 1) := by decide +kernel
theorem dX1_takeNumber_36 : decode cX1_takeNumber 36 = .ok (.invokevirtual 22, 3) := by decide +kernel
theorem dX1_takeNumber_39 : decode cX1_takeNumber 39 = .ok (.iload_n 2, 1) := by decide +kernel
theorem dX1_takeNumber_40 : decode cX1_takeNumber 40 = .ok (.ireturn, 1) := by decide +kernel
set_option maxHeartbeats 4000000 in
set_option maxRecDepth 100000 in
theorem g_X1_takeNumber {E : fh_E} {M : fh_M} (C : fh_Cx E M cX1_takeNumber 3 RX1 ((some FieldType.int)) rm_X1_takeNumber) (Hr : fh_Rt E M) (k1 : Nat) (a2 : Int32) (σ3 : fh_S) : fh_Go E M 3 fh_vI 0 [(0, .ref (fh_ad E k1)), (1, .int a2)] [] σ3 (f_X1_takeNumber k1 a2 σ3) := by
  have hok := fh_cok C
  refine go_ob ?_
  refine go_aload_n C 0 rfl rfl dX1_takeNumber_0 ?_
  refine go_gi (ci := 1) (j := 5) C fh_in1 rfl (by decide) rfl q_104 dX1_takeNumber_1 (fun v4 => ?_)
  refine go_iconst C (-1 : Int32) dX1_takeNumber_4 rfl ?_
  refine go_jn (fun (j7 : fh_S → Option (Int32 × fh_S)) => ∀ (σ5 : fh_S), fh_Go E M 3 fh_vI 24 [(0, .ref (fh_ad E k1))] [] σ5 (j7 σ5)) ?_ (fun j7 hj7 => ?_)
  · intro σ5
    refine go_aload_n C 0 rfl rfl dX1_takeNumber_24 ?_
    refine go_callVU C (st := []) [] (m_X1_refuse E _ hok k1 σ5) (fun _ h => fh_ob_ok h) rfl rfl ⟨q_622, q_624, qs_15, q_4, q_625⟩ pd_X1_refuse rfl ⟨⟨Nat.le_of_ble_eq_true rfl, Nat.le_of_ble_eq_true rfl⟩, rfl, rfl⟩ (Nat.le_of_ble_eq_true rfl) dX1_takeNumber_25 (fun _ σ6 => ?_)
    refine go_iconst C (0 : Int32) dX1_takeNumber_28 rfl ?_
    exact go_iret C Hr rfl dX1_takeNumber_29
  refine go_icmp_ne (tgt := 24) C dX1_takeNumber_5 rfl (fun _ => ?_) (fun _ => ?_)
  · refine go_lv [0] (lv' := [(0, .ref (fh_ad E k1))]) rfl ?_
    exact hj7 σ3
  · refine go_aload_n C 0 rfl rfl dX1_takeNumber_8 ?_
    refine go_gi (ci := 1) (j := 1) C fh_in1 rfl (by decide) rfl q_100 dX1_takeNumber_9 (fun v8 => ?_)
    refine go_iconst C (2 : Int32) dX1_takeNumber_12 rfl ?_
    refine go_icmp_ne (tgt := 24) C dX1_takeNumber_13 rfl (fun _ => ?_) (fun _ => ?_)
    · refine go_lv [0] (lv' := [(0, .ref (fh_ad E k1))]) rfl ?_
      exact hj7 σ3
    · refine go_aload_n C 0 rfl rfl dX1_takeNumber_16 ?_
      refine go_gi (ci := 1) (j := 4) C fh_in1 rfl (by decide) rfl q_103 dX1_takeNumber_17 (fun v9 => ?_)
      refine go_iload_n C 1 rfl rfl dX1_takeNumber_20 ?_
      refine go_icmp_le (tgt := 30) C dX1_takeNumber_21 rfl (fun _ => ?_) (fun _ => ?_)
      · refine go_aload_n C 0 rfl rfl dX1_takeNumber_30 ?_
        refine go_gi (ci := 1) (j := 4) C fh_in1 rfl (by decide) rfl q_103 dX1_takeNumber_31 (fun v10 => ?_)
        refine go_istore_n C [(2, .int v10), (0, .ref (fh_ad E k1)), (1, .int a2)] rfl rfl (by decide) dX1_takeNumber_34 ?_
        refine go_aload_n C 1 rfl rfl dX1_takeNumber_35 ?_
        refine go_callVU C (st := []) [] (m_X1_findToken E _ hok k1 σ3) (fun _ h => fh_ob_ok h) rfl rfl ⟨q_534, q_536, qs_8, q_4, q_537⟩ pd_X1_findToken rfl ⟨⟨Nat.le_of_ble_eq_true rfl, Nat.le_of_ble_eq_true rfl⟩, rfl, rfl⟩ (Nat.le_of_ble_eq_true rfl) dX1_takeNumber_36 (fun _ σ11 => ?_)
        refine go_iload_n C 0 rfl rfl dX1_takeNumber_39 ?_
        exact go_iret C Hr rfl dX1_takeNumber_40
      · refine go_lv [0] (lv' := [(0, .ref (fh_ad E k1))]) rfl ?_
        exact hj7 σ3
theorem m_X1_takeNumber (E : fh_E) (l : Launch) (hok : fh_ok E) (k1 : Nat) (a2 : Int32) (σ3 : fh_S) : fh_Met E l yX1_takeNumber cX1_takeNumber 3 ((some FieldType.int)) rm_X1_takeNumber fh_vI [.ref (fh_ad E k1), .int a2] σ3 (f_X1_takeNumber k1 a2 σ3) := fh_met hok (by decide +kernel) (Nat.le_of_ble_eq_true rfl) (fun M _ C Hr => g_X1_takeNumber C Hr k1 a2 σ3)
def f_X1_takeSign (k1 : Nat) (a2 : Int32) (σ3 : fh_S) : Option (Int32 × fh_S) := fh_ob 1 k1 ((fh_gi σ3 1 k1 5).bind fun v4 => if v4 = ((-1 : Int32)) then (fh_gi σ3 1 k1 1).bind fun v5 => if v5 = ((3 : Int32)) then (fh_gr 1 k1 0).bind fun k6 => (fh_gi σ3 1 k1 2).bind fun v7 => fh_cb (f_X3_byteAt k6 v7 σ3) fun r9 σ8 => if r9 = a2 then fh_cb (f_X1_findToken k1 σ8) fun _ σ10 => fh_rz ((1 : Int32)) σ10 else fh_rz ((0 : Int32)) σ8 else fh_rz ((0 : Int32)) σ3 else fh_rz ((0 : Int32)) σ3)
abbrev rm_X1_takeSign : Room := { frames := 3, cells := 0, slots := 0, locals := 62 }
theorem pd_X1_takeSign : yX1_takeSign.cls ≠ "java/lang/invoke/MethodHandle" ∧ yX1_takeSign.cls ≠ "java/lang/invoke/VarHandle" ∧ (parseMethodDescriptor yX1_takeSign.desc).map (fun d => d.parameters.length) = some 1 := by decide +kernel
theorem dX1_takeSign_0 : decode cX1_takeSign 0 = .ok (.aload_n 0, 1) := by decide +kernel
theorem dX1_takeSign_1 : decode cX1_takeSign 1 = .ok (.getfield 15, 3) := by decide +kernel
theorem dX1_takeSign_4 : decode cX1_takeSign 4 = .ok (.iconst (-1), 1) := by decide +kernel
theorem dX1_takeSign_5 : decode cX1_takeSign 5 = .ok (.if_icmp .ne 26, 3) := by decide +kernel
theorem dX1_takeSign_8 : decode cX1_takeSign 8 = .ok (.aload_n 0, 1) := by decide +kernel
theorem dX1_takeSign_9 : decode cX1_takeSign 9 = .ok (.getfield 42, 3) := by decide +kernel
theorem dX1_takeSign_12 : decode cX1_takeSign 12 = .ok (.iconst 3, 1) := by decide +kernel
theorem dX1_takeSign_13 : decode cX1_takeSign 13 = .ok (.if_icmp .ne 18, 3) := by decide +kernel
theorem dX1_takeSign_16 : decode cX1_takeSign 16 = .ok (.aload_n 0, 1) := by decide +kernel
theorem dX1_takeSign_17 : decode cX1_takeSign 17 = .ok (.getfield 9, 3) := by decide +kernel
theorem dX1_takeSign_20 : decode cX1_takeSign 20 = .ok (.aload_n 0, 1) := by decide +kernel
theorem dX1_takeSign_21 : decode cX1_takeSign 21 = .ok (.getfield 95, 3) := by decide +kernel
theorem dX1_takeSign_24 : decode cX1_takeSign 24 = .ok (.invokevirtual 101, 3) := by decide +kernel
theorem dX1_takeSign_27 : decode cX1_takeSign 27 = .ok (.iload_n 1, 1) := by decide +kernel
theorem dX1_takeSign_28 : decode cX1_takeSign 28 = .ok (.if_icmp .eq 5, 3) := by decide +kernel
theorem dX1_takeSign_31 : decode cX1_takeSign 31 = .ok (.iconst 0, 1) := by decide +kernel
theorem dX1_takeSign_32 : decode cX1_takeSign 32 = .ok (.ireturn, 1) := by decide +kernel
theorem dX1_takeSign_33 : decode cX1_takeSign 33 = .ok (.aload_n 0, 1) := by decide +kernel
theorem dX1_takeSign_34 : decode cX1_takeSign 34 = .ok (.invokevirtual 22, 3) := by decide +kernel
theorem dX1_takeSign_37 : decode cX1_takeSign 37 = .ok (.iconst 1, 1) := by decide +kernel
theorem dX1_takeSign_38 : decode cX1_takeSign 38 = .ok (.ireturn, 1) := by decide +kernel
set_option maxHeartbeats 4000000 in
set_option maxRecDepth 100000 in
theorem g_X1_takeSign {E : fh_E} {M : fh_M} (C : fh_Cx E M cX1_takeSign 2 RX1 ((some FieldType.boolean)) rm_X1_takeSign) (Hr : fh_Rt E M) (k1 : Nat) (a2 : Int32) (σ3 : fh_S) : fh_Go E M 2 fh_vI 0 [(0, .ref (fh_ad E k1)), (1, .int a2)] [] σ3 (f_X1_takeSign k1 a2 σ3) := by
  have hok := fh_cok C
  refine go_ob ?_
  refine go_aload_n C 0 rfl rfl dX1_takeSign_0 ?_
  refine go_gi (ci := 1) (j := 5) C fh_in1 rfl (by decide) rfl q_104 dX1_takeSign_1 (fun v4 => ?_)
  refine go_iconst C (-1 : Int32) dX1_takeSign_4 rfl ?_
  refine go_icmp_ne (tgt := 31) C dX1_takeSign_5 rfl (fun _ => ?_) (fun _ => ?_)
  · refine go_iconst C (0 : Int32) dX1_takeSign_31 rfl ?_
    exact go_zret C Hr dX1_takeSign_32
  · refine go_aload_n C 0 rfl rfl dX1_takeSign_8 ?_
    refine go_gi (ci := 1) (j := 1) C fh_in1 rfl (by decide) rfl q_100 dX1_takeSign_9 (fun v5 => ?_)
    refine go_iconst C (3 : Int32) dX1_takeSign_12 rfl ?_
    refine go_icmp_ne (tgt := 31) C dX1_takeSign_13 rfl (fun _ => ?_) (fun _ => ?_)
    · refine go_iconst C (0 : Int32) dX1_takeSign_31 rfl ?_
      exact go_zret C Hr dX1_takeSign_32
    · refine go_aload_n C 0 rfl rfl dX1_takeSign_16 ?_
      refine go_gr (ci := 1) (j := 0) C fh_in1 rfl (by decide) rfl q_99 dX1_takeSign_17 (fun k6 => ?_)
      refine go_aload_n C 0 rfl rfl dX1_takeSign_20 ?_
      refine go_gi (ci := 1) (j := 2) C fh_in1 rfl (by decide) rfl q_101 dX1_takeSign_21 (fun v7 => ?_)
      refine go_callVI C (st := []) [.int v7] (m_X3_byteAt E _ hok k6 v7 σ3) (fun _ h => fh_ob_ok h) rfl rfl ⟨q_538, q_539, q_540, q_3, q_541⟩ pd_X3_byteAt rfl ⟨⟨Nat.le_of_ble_eq_true rfl, Nat.le_of_ble_eq_true rfl⟩, rfl, rfl⟩ (Nat.le_of_ble_eq_true rfl) dX1_takeSign_24 (fun r9 σ8 => ?_)
      refine go_iload_n C 1 rfl rfl dX1_takeSign_27 ?_
      refine go_icmp_eq (tgt := 33) C dX1_takeSign_28 rfl (fun _ => ?_) (fun _ => ?_)
      · refine go_aload_n C 0 rfl rfl dX1_takeSign_33 ?_
        refine go_callVU C (st := []) [] (m_X1_findToken E _ hok k1 σ8) (fun _ h => fh_ob_ok h) rfl rfl ⟨q_534, q_536, qs_8, q_4, q_537⟩ pd_X1_findToken rfl ⟨⟨Nat.le_of_ble_eq_true rfl, Nat.le_of_ble_eq_true rfl⟩, rfl, rfl⟩ (Nat.le_of_ble_eq_true rfl) dX1_takeSign_34 (fun _ σ10 => ?_)
        refine go_iconst C (1 : Int32) dX1_takeSign_37 rfl ?_
        exact go_zret C Hr dX1_takeSign_38
      · refine go_iconst C (0 : Int32) dX1_takeSign_31 rfl ?_
        exact go_zret C Hr dX1_takeSign_32
theorem m_X1_takeSign (E : fh_E) (l : Launch) (hok : fh_ok E) (k1 : Nat) (a2 : Int32) (σ3 : fh_S) : fh_Met E l yX1_takeSign cX1_takeSign 2 ((some FieldType.boolean)) rm_X1_takeSign fh_vI [.ref (fh_ad E k1), .int a2] σ3 (f_X1_takeSign k1 a2 σ3) := fh_met hok (by decide +kernel) (Nat.le_of_ble_eq_true rfl) (fun M _ C Hr => g_X1_takeSign C Hr k1 a2 σ3)
def f_X1_takeWord (k1 : Nat) (i2 : Nat) (σ3 : fh_S) : Option (Int32 × fh_S) := fh_ob 1 k1 ((fh_gi σ3 1 k1 5).bind fun v4 => if v4 = ((-1 : Int32)) then fh_cb (f_X1_isWord k1 i2 σ3) fun r6 σ5 => if r6 = 0 then fh_rz ((0 : Int32)) σ5 else fh_cb (f_X1_findToken k1 σ5) fun _ σ7 => fh_rz ((1 : Int32)) σ7 else fh_rz ((0 : Int32)) σ3)
abbrev rm_X1_takeWord : Room := { frames := 5, cells := 0, slots := 0, locals := 107 }
theorem pd_X1_takeWord : yX1_takeWord.cls ≠ "java/lang/invoke/MethodHandle" ∧ yX1_takeWord.cls ≠ "java/lang/invoke/VarHandle" ∧ (parseMethodDescriptor yX1_takeWord.desc).map (fun d => d.parameters.length) = some 1 := by decide +kernel
theorem dX1_takeWord_0 : decode cX1_takeWord 0 = .ok (.aload_n 0, 1) := by decide +kernel
theorem dX1_takeWord_1 : decode cX1_takeWord 1 = .ok (.getfield 15, 3) := by decide +kernel
theorem dX1_takeWord_4 : decode cX1_takeWord 4 = .ok (.iconst (-1), 1) := by decide +kernel
theorem dX1_takeWord_5 : decode cX1_takeWord 5 = .ok (.if_icmp .ne 11, 3) := by decide +kernel
theorem dX1_takeWord_8 : decode cX1_takeWord 8 = .ok (.aload_n 0, 1) := by decide +kernel
theorem dX1_takeWord_9 : decode cX1_takeWord 9 = .ok (.aload_n 1, 1) := by decide +kernel
theorem dX1_takeWord_10 : decode cX1_takeWord 10 = .ok (.invokevirtual 98, 3) := by decide +kernel
theorem dX1_takeWord_13 : decode cX1_takeWord 13 = .ok (.ifCond .ne 5, 3) := by decide +kernel
theorem dX1_takeWord_16 : decode cX1_takeWord 16 = .ok (.iconst 0, 1) := by decide +kernel
theorem dX1_takeWord_17 : decode cX1_takeWord 17 = .ok (.ireturn, 1) := by decide +kernel
theorem dX1_takeWord_18 : decode cX1_takeWord 18 = .ok (.aload_n 0, 1) := by decide +kernel
theorem dX1_takeWord_19 : decode cX1_takeWord 19 = .ok (.invokevirtual 22, 3) := by decide +kernel
theorem dX1_takeWord_22 : decode cX1_takeWord 22 = .ok (.iconst 1, 1) := by decide +kernel
theorem dX1_takeWord_23 : decode cX1_takeWord 23 = .ok (.ireturn, 1) := by decide +kernel
set_option maxHeartbeats 4000000 in
set_option maxRecDepth 100000 in
theorem g_X1_takeWord {E : fh_E} {M : fh_M} (C : fh_Cx E M cX1_takeWord 2 RX1 ((some FieldType.boolean)) rm_X1_takeWord) (Hr : fh_Rt E M) (k1 : Nat) (i2 : Nat) (σ3 : fh_S) : fh_Go E M 2 fh_vI 0 [(0, .ref (fh_ad E k1)), (1, .ref (fh_aK E i2))] [] σ3 (f_X1_takeWord k1 i2 σ3) := by
  have hok := fh_cok C
  refine go_ob ?_
  refine go_aload_n C 0 rfl rfl dX1_takeWord_0 ?_
  refine go_gi (ci := 1) (j := 5) C fh_in1 rfl (by decide) rfl q_104 dX1_takeWord_1 (fun v4 => ?_)
  refine go_iconst C (-1 : Int32) dX1_takeWord_4 rfl ?_
  refine go_icmp_ne (tgt := 16) C dX1_takeWord_5 rfl (fun _ => ?_) (fun _ => ?_)
  · refine go_iconst C (0 : Int32) dX1_takeWord_16 rfl ?_
    exact go_zret C Hr dX1_takeWord_17
  · refine go_aload_n C 0 rfl rfl dX1_takeWord_8 ?_
    refine go_aload_n C 1 rfl rfl dX1_takeWord_9 ?_
    refine go_callVI C (st := []) [.ref (fh_aK E i2)] (m_X1_isWord E _ hok k1 i2 σ3) (fun _ h => fh_ob_ok h) rfl rfl ⟨q_562, q_564, qs_12, q_4, q_565⟩ pd_X1_isWord rfl ⟨⟨Nat.le_of_ble_eq_true rfl, Nat.le_of_ble_eq_true rfl⟩, rfl, rfl⟩ (Nat.le_of_ble_eq_true rfl) dX1_takeWord_10 (fun r6 σ5 => ?_)
    refine go_if_ne (tgt := 18) C dX1_takeWord_13 rfl (fun _ => ?_) (fun _ => ?_)
    · refine go_aload_n C 0 rfl rfl dX1_takeWord_18 ?_
      refine go_callVU C (st := []) [] (m_X1_findToken E _ hok k1 σ5) (fun _ h => fh_ob_ok h) rfl rfl ⟨q_534, q_536, qs_8, q_4, q_537⟩ pd_X1_findToken rfl ⟨⟨Nat.le_of_ble_eq_true rfl, Nat.le_of_ble_eq_true rfl⟩, rfl, rfl⟩ (Nat.le_of_ble_eq_true rfl) dX1_takeWord_19 (fun _ σ7 => ?_)
      refine go_iconst C (1 : Int32) dX1_takeWord_22 rfl ?_
      exact go_zret C Hr dX1_takeWord_23
    · refine go_iconst C (0 : Int32) dX1_takeWord_16 rfl ?_
      exact go_zret C Hr dX1_takeWord_17
theorem m_X1_takeWord (E : fh_E) (l : Launch) (hok : fh_ok E) (k1 : Nat) (i2 : Nat) (σ3 : fh_S) : fh_Met E l yX1_takeWord cX1_takeWord 2 ((some FieldType.boolean)) rm_X1_takeWord fh_vI [.ref (fh_ad E k1), .ref (fh_aK E i2)] σ3 (f_X1_takeWord k1 i2 σ3) := fh_met hok (by decide +kernel) (Nat.le_of_ble_eq_true rfl) (fun M _ C Hr => g_X1_takeWord C Hr k1 i2 σ3)
def f_X1_readDial_J16 (k1 : Nat) : fh_S → Option (Unit × fh_S) := fun σ6 => fh_cb (f_X1_refuse k1 σ6) fun _ σ7 => some ((), σ7)
def f_X1_readDial_J139 (k1 : Nat) (k2 : Nat) (r13 : Int32) : fh_S → Option (Unit × fh_S) := fun σ25 => fh_cb (f_X1_takeWord k1 12 σ25) fun r27 σ26 => if r27 = 0 then some ((), σ26) else fh_cb (f_X0_freeze k2 r13 σ26) fun r29 σ28 => some ((), σ28)
def f_X1_readDial_J118 (k1 : Nat) (k2 : Nat) (r13 : Int32) : fh_S → Option (Unit × fh_S) := fun σ22 => fh_cb (f_X1_takeWord k1 11 σ22) fun r24 σ23 => fh_jn (f_X1_readDial_J139 k1 k2 r13) (fun j30 => if r24 = 0 then j30 σ23 else (fh_gr 0 k2 5).bind fun k31 => fh_cb (f_X1_takeNumber k1 ((9 : Int32)) σ23) fun r33 σ32 => (fh_st σ32 k31 r13 r33).bind fun σ34 => j30 σ34)
def f_X1_readDial_J101 (k2 : Nat) (k1 : Nat) (r13 : Int32) (j35 : fh_S → Option (Unit × fh_S)) : Int32 → fh_S → Option (Unit × fh_S) := fun x38 σ39 => (fh_gr 0 k2 3).bind fun k40 => fh_cb (f_X1_takeNumber k1 ((99 : Int32)) σ39) fun r42 σ41 => (fh_st σ41 k40 r13 (x38 * r42)).bind fun σ43 => j35 σ43
def f_X1_readDial_J78 (k1 : Nat) (k2 : Nat) (r13 : Int32) : fh_S → Option (Unit × fh_S) := fun σ19 => fh_cb (f_X1_takeWord k1 10 σ19) fun r21 σ20 => fh_jn (f_X1_readDial_J118 k1 k2 r13) (fun j35 => if r21 = 0 then j35 σ20 else fh_cb (f_X1_takeSign k1 ((45 : Int32)) σ20) fun r37 σ36 => fh_jn (f_X1_readDial_J101 k2 k1 r13 j35) (fun j44 => if r37 = 0 then j44 ((1 : Int32)) σ36 else j44 ((-1 : Int32)) σ36))
def f_X1_readDial_J53 (k1 : Nat) (k2 : Nat) (r13 : Int32) : fh_S → Option (Unit × fh_S) := fun σ16 => fh_cb (f_X1_takeWord k1 9 σ16) fun r18 σ17 => fh_jn (f_X1_readDial_J78 k1 k2 r13) (fun j45 => if r18 = 0 then j45 σ17 else (fh_gr 0 k2 2).bind fun k46 => (fh_gi σ17 0 k2 9).bind fun v47 => fh_cb (f_X1_takeNumber k1 (v47 - ((1 : Int32))) σ17) fun r49 σ48 => (fh_st σ48 k46 r13 r49).bind fun σ50 => j45 σ50)
def f_X1_readDial (k1 : Nat) (k2 : Nat) (σ3 : fh_S) : Option (Unit × fh_S) := fh_ob 1 k1 (fh_cb (f_X1_kindOfWord k1 σ3) fun r5 σ4 => fh_jn (f_X1_readDial_J16 k1) (fun j8 => if r5 < 0 then j8 σ4 else fh_cb (f_X0_isFull k2 σ4) fun r10 σ9 => if r10 = 0 then fh_cb (f_X1_findToken k1 σ9) fun _ σ11 => fh_cb (f_X0_add k2 r5 σ11) fun r13 σ12 => fh_cb (f_X1_takeWord k1 8 σ12) fun r15 σ14 => fh_jn (f_X1_readDial_J53 k1 k2 r13) (fun j51 => if r15 = 0 then j51 σ14 else (fh_gr 0 k2 1).bind fun k52 => fh_cb (f_X1_takeNumber k1 ((719 : Int32)) σ14) fun r54 σ53 => (fh_st σ53 k52 r13 r54).bind fun σ55 => j51 σ55) else j8 σ9))
abbrev rm_X1_readDial : Room := { frames := 6, cells := 0, slots := 0, locals := 128 }
theorem pd_X1_readDial : yX1_readDial.cls ≠ "java/lang/invoke/MethodHandle" ∧ yX1_readDial.cls ≠ "java/lang/invoke/VarHandle" ∧ (parseMethodDescriptor yX1_readDial.desc).map (fun d => d.parameters.length) = some 1 := by decide +kernel
theorem dX1_readDial_0 : decode cX1_readDial 0 = .ok (.aload_n 0, 1) := by decide +kernel
theorem dX1_readDial_1 : decode cX1_readDial 1 = .ok (.invokevirtual 61, 3) := by decide +kernel
theorem dX1_readDial_4 : decode cX1_readDial 4 = .ok (.istore_n 2, 1) := by decide +kernel
theorem dX1_readDial_5 : decode cX1_readDial 5 = .ok (.iload_n 2, 1) := by decide +kernel
theorem dX1_readDial_6 : decode cX1_readDial 6 = .ok (.ifCond .lt 10, 3) := by decide +kernel
theorem dX1_readDial_9 : decode cX1_readDial 9 = .ok (.aload_n 1, 1) := by decide +kernel
theorem dX1_readDial_10 : decode cX1_readDial 10 = .ok (.invokevirtual 65, 3) := by decide +kernel
theorem dX1_readDial_13 : decode cX1_readDial 13 = .ok (.ifCond .eq 8, 3) := by decide +kernel
theorem dX1_readDial_16 : decode cX1_readDial 16 = .ok (.aload_n 0, 1) := by decide +kernel
theorem dX1_readDial_17 : decode cX1_readDial 17 = .ok (.invokevirtual 45, 3) := by decide +kernel
theorem dX1_readDial_20 : decode cX1_readDial 20 = .ok (.return_, 1) := by decide +kernel
theorem dX1_readDial_21 : decode cX1_readDial 21 = .ok (.aload_n 0, 1) := by decide +kernel
theorem dX1_readDial_22 : decode cX1_readDial 22 = .ok (.invokevirtual 22, 3) := by decide +kernel
theorem dX1_readDial_25 : decode cX1_readDial 25 = .ok (.aload_n 1, 1) := by decide +kernel
theorem dX1_readDial_26 : decode cX1_readDial 26 = .ok (.iload_n 2, 1) := by decide +kernel
theorem dX1_readDial_27 : decode cX1_readDial 27 = .ok (.invokevirtual 69, 3) := by decide +kernel
theorem dX1_readDial_30 : decode cX1_readDial 30 = .ok (.istore_n 3, 1) := by decide +kernel
theorem dX1_readDial_31 : decode cX1_readDial 31 = .ok (.aload_n 0, 1) := by decide +kernel
theorem dX1_readDial_32 : decode cX1_readDial 32 = .ok (.ldc 72, 2) := by decide +kernel
theorem dX1_readDial_34 : decode cX1_readDial 34 = .ok (.invokevirtual 27, 3) := by decide +kernel
theorem dX1_readDial_37 : decode cX1_readDial 37 = .ok (.ifCond .eq 16, 3) := by decide +kernel
theorem dX1_readDial_40 : decode cX1_readDial 40 = .ok (.aload_n 1, 1) := by decide +kernel
theorem dX1_readDial_41 : decode cX1_readDial 41 = .ok (.getfield 74, 3) := by decide +kernel
theorem dX1_readDial_44 : decode cX1_readDial 44 = .ok (.iload_n 3, 1) := by decide +kernel
theorem dX1_readDial_45 : decode cX1_readDial 45 = .ok (.aload_n 0, 1) := by decide +kernel
theorem dX1_readDial_46 : decode cX1_readDial 46 = .ok (.sipush 719, 3) := by decide +kernel
theorem dX1_readDial_49 : decode cX1_readDial 49 = .ok (.invokevirtual 53, 3) := by decide +kernel
theorem dX1_readDial_52 : decode cX1_readDial 52 = .ok (.iastore, 1) := by decide +kernel
theorem dX1_readDial_53 : decode cX1_readDial 53 = .ok (.aload_n 0, 1) := by decide +kernel
theorem dX1_readDial_54 : decode cX1_readDial 54 = .ok (.ldc 77, 2) := by decide +kernel
theorem dX1_readDial_56 : decode cX1_readDial 56 = .ok (.invokevirtual 27, 3) := by decide +kernel
theorem dX1_readDial_59 : decode cX1_readDial 59 = .ok (.ifCond .eq 19, 3) := by decide +kernel
theorem dX1_readDial_62 : decode cX1_readDial 62 = .ok (.aload_n 1, 1) := by decide +kernel
theorem dX1_readDial_63 : decode cX1_readDial 63 = .ok (.getfield 57, 3) := by decide +kernel
theorem dX1_readDial_66 : decode cX1_readDial 66 = .ok (.iload_n 3, 1) := by decide +kernel
theorem dX1_readDial_67 : decode cX1_readDial 67 = .ok (.aload_n 0, 1) := by decide +kernel
theorem dX1_readDial_68 : decode cX1_readDial 68 = .ok (.aload_n 1, 1) := by decide +kernel
theorem dX1_readDial_69 : decode cX1_readDial 69 = .ok (.getfield 48, 3) := by decide +kernel
theorem dX1_readDial_72 : decode cX1_readDial 72 = .ok (.iconst 1, 1) := by decide +kernel
theorem dX1_readDial_73 : decode cX1_readDial 73 = .ok (.isub, 1) := by decide +kernel
theorem dX1_readDial_74 : decode cX1_readDial 74 = .ok (.invokevirtual 53, 3) := by decide +kernel
theorem dX1_readDial_77 : decode cX1_readDial 77 = .ok (.iastore, 1) := by decide +kernel
theorem dX1_readDial_78 : decode cX1_readDial 78 = .ok (.aload_n 0, 1) := by decide +kernel
theorem dX1_readDial_79 : decode cX1_readDial 79 = .ok (.ldc 79, 2) := by decide +kernel
theorem dX1_readDial_81 : decode cX1_readDial 81 = .ok (.invokevirtual 27, 3) := by decide +kernel
theorem dX1_readDial_84 : decode cX1_readDial 84 = .ok (.ifCond .eq 34, 3) := by decide +kernel
theorem dX1_readDial_87 : decode cX1_readDial 87 = .ok (.aload_n 0, 1) := by decide +kernel
theorem dX1_readDial_88 : decode cX1_readDial 88 = .ok (.bipush 45, 2) := by decide +kernel
theorem dX1_readDial_90 : decode cX1_readDial 90 = .ok (.invokevirtual 38, 3) := by decide +kernel
theorem dX1_readDial_93 : decode cX1_readDial 93 = .ok (.ifCond .eq 7, 3) := by decide +kernel
theorem dX1_readDial_96 : decode cX1_readDial 96 = .ok (.iconst (-1), 1) := by decide +kernel
theorem dX1_readDial_97 : decode cX1_readDial 97 = .ok (.goto 4, 3) := by decide +kernel
theorem dX1_readDial_100 : decode cX1_readDial 100 = .ok (.iconst 1, 1) := by decide +kernel
theorem dX1_readDial_101 : decode cX1_readDial 101 = .ok (.istore 4, 2) := by decide +kernel
theorem dX1_readDial_103 : decode cX1_readDial 103 = .ok (.aload_n 1, 1) := by decide +kernel
theorem dX1_readDial_104 : decode cX1_readDial 104 = .ok (.getfield 81, 3) := by decide +kernel
theorem dX1_readDial_107 : decode cX1_readDial 107 = .ok (.iload_n 3, 1) := by decide +kernel
theorem dX1_readDial_108 : decode cX1_readDial 108 = .ok (.iload 4, 2) := by decide +kernel
theorem dX1_readDial_110 : decode cX1_readDial 110 = .ok (.aload_n 0, 1) := by decide +kernel
theorem dX1_readDial_111 : decode cX1_readDial 111 = .ok (.bipush 99, 2) := by decide +kernel
theorem dX1_readDial_113 : decode cX1_readDial 113 = .ok (.invokevirtual 53, 3) := by decide +kernel
theorem dX1_readDial_116 : decode cX1_readDial 116 = .ok (.imul, 1) := by decide +kernel
theorem dX1_readDial_117 : decode cX1_readDial 117 = .ok (.iastore, 1) := by decide +kernel
theorem dX1_readDial_118 : decode cX1_readDial 118 = .ok (.aload_n 0, 1) := by decide +kernel
theorem dX1_readDial_119 : decode cX1_readDial 119 = .ok (.ldc 84, 2) := by decide +kernel
theorem dX1_readDial_121 : decode cX1_readDial 121 = .ok (.invokevirtual 27, 3) := by decide +kernel
theorem dX1_readDial_124 : decode cX1_readDial 124 = .ok (.ifCond .eq 15, 3) := by decide +kernel
theorem dX1_readDial_127 : decode cX1_readDial 127 = .ok (.aload_n 1, 1) := by decide +kernel
theorem dX1_readDial_128 : decode cX1_readDial 128 = .ok (.getfield 86, 3) := by decide +kernel
theorem dX1_readDial_131 : decode cX1_readDial 131 = .ok (.iload_n 3, 1) := by decide +kernel
theorem dX1_readDial_132 : decode cX1_readDial 132 = .ok (.aload_n 0, 1) := by decide +kernel
theorem dX1_readDial_133 : decode cX1_readDial 133 = .ok (.bipush 9, 2) := by decide +kernel
theorem dX1_readDial_135 : decode cX1_readDial 135 = .ok (.invokevirtual 53, 3) := by decide +kernel
theorem dX1_readDial_138 : decode cX1_readDial 138 = .ok (.iastore, 1) := by decide +kernel
theorem dX1_readDial_139 : decode cX1_readDial 139 = .ok (.aload_n 0, 1) := by decide +kernel
theorem dX1_readDial_140 : decode cX1_readDial 140 = .ok (.ldc 89, 2) := by decide +kernel
theorem dX1_readDial_142 : decode cX1_readDial 142 = .ok (.invokevirtual 27, 3) := by decide +kernel
theorem dX1_readDial_145 : decode cX1_readDial 145 = .ok (.ifCond .eq 9, 3) := by decide +kernel
theorem dX1_readDial_148 : decode cX1_readDial 148 = .ok (.aload_n 1, 1) := by decide +kernel
theorem dX1_readDial_149 : decode cX1_readDial 149 = .ok (.iload_n 3, 1) := by decide +kernel
theorem dX1_readDial_150 : decode cX1_readDial 150 = .ok (.invokevirtual 91, 3) := by decide +kernel
theorem dX1_readDial_153 : decode cX1_readDial 153 = .ok (.pop, 1) := by decide +kernel
theorem dX1_readDial_154 : decode cX1_readDial 154 = .ok (.return_, 1) := by decide +kernel
set_option maxHeartbeats 4000000 in
set_option maxRecDepth 100000 in
theorem g_X1_readDial {E : fh_E} {M : fh_M} (C : fh_Cx E M cX1_readDial 5 RX1 (none) rm_X1_readDial) (Hr : fh_Rt E M) (k1 : Nat) (k2 : Nat) (σ3 : fh_S) : fh_Go E M 5 fh_vU 0 [(0, .ref (fh_ad E k1)), (1, .ref (fh_ad E k2))] [] σ3 (f_X1_readDial k1 k2 σ3) := by
  have hok := fh_cok C
  refine go_ob ?_
  refine go_aload_n C 0 rfl rfl dX1_readDial_0 ?_
  refine go_callVI C (st := []) [] (m_X1_kindOfWord E _ hok k1 σ3) (fun _ h => fh_ob_ok h) rfl rfl ⟨q_630, q_632, qs_17, q_4, q_633⟩ pd_X1_kindOfWord rfl ⟨⟨Nat.le_of_ble_eq_true rfl, Nat.le_of_ble_eq_true rfl⟩, rfl, rfl⟩ (Nat.le_of_ble_eq_true rfl) dX1_readDial_1 (fun r5 σ4 => ?_)
  refine go_istore_n C [(2, .int r5), (0, .ref (fh_ad E k1)), (1, .ref (fh_ad E k2))] rfl rfl (by decide) dX1_readDial_4 ?_
  refine go_iload_n C 0 rfl rfl dX1_readDial_5 ?_
  refine go_jn (fun (j8 : fh_S → Option (Unit × fh_S)) => ∀ (σ6 : fh_S), fh_Go E M 5 fh_vU 16 [(0, .ref (fh_ad E k1))] [] σ6 (j8 σ6)) ?_ (fun j8 hj8 => ?_)
  · intro σ6
    refine go_aload_n C 0 rfl rfl dX1_readDial_16 ?_
    refine go_callVU C (st := []) [] (m_X1_refuse E _ hok k1 σ6) (fun _ h => fh_ob_ok h) rfl rfl ⟨q_622, q_624, qs_15, q_4, q_625⟩ pd_X1_refuse rfl ⟨⟨Nat.le_of_ble_eq_true rfl, Nat.le_of_ble_eq_true rfl⟩, rfl, rfl⟩ (Nat.le_of_ble_eq_true rfl) dX1_readDial_17 (fun _ σ7 => ?_)
    exact go_vret C Hr rfl dX1_readDial_20
  refine go_if_lt (tgt := 16) C dX1_readDial_6 rfl (fun _ => ?_) (fun _ => ?_)
  · refine go_lv [1] (lv' := [(0, .ref (fh_ad E k1))]) rfl ?_
    exact hj8 σ4
  · refine go_aload_n C 2 rfl rfl dX1_readDial_9 ?_
    refine go_callVI C (st := []) [] (m_X0_isFull E _ hok k2 σ4) (fun _ h => fh_ob_ok h) rfl rfl ⟨q_645, q_181, q_182, q_2, q_183⟩ pd_X0_isFull rfl ⟨⟨Nat.le_of_ble_eq_true rfl, Nat.le_of_ble_eq_true rfl⟩, rfl, rfl⟩ (Nat.le_of_ble_eq_true rfl) dX1_readDial_10 (fun r10 σ9 => ?_)
    refine go_if_eq (tgt := 21) C dX1_readDial_13 rfl (fun _ => ?_) (fun _ => ?_)
    · refine go_aload_n C 1 rfl rfl dX1_readDial_21 ?_
      refine go_callVU C (st := []) [] (m_X1_findToken E _ hok k1 σ9) (fun _ h => fh_ob_ok h) rfl rfl ⟨q_534, q_536, qs_8, q_4, q_537⟩ pd_X1_findToken rfl ⟨⟨Nat.le_of_ble_eq_true rfl, Nat.le_of_ble_eq_true rfl⟩, rfl, rfl⟩ (Nat.le_of_ble_eq_true rfl) dX1_readDial_22 (fun _ σ11 => ?_)
      refine go_aload_n C 2 rfl rfl dX1_readDial_25 ?_
      refine go_iload_n C 0 rfl rfl dX1_readDial_26 ?_
      refine go_callVI C (st := []) [.int r5] (m_X0_add E _ hok k2 r5 σ11) (fun _ h => fh_ob_ok h) rfl rfl ⟨q_646, q_186, q_187, q_2, q_188⟩ pd_X0_add rfl ⟨⟨Nat.le_of_ble_eq_true rfl, Nat.le_of_ble_eq_true rfl⟩, rfl, rfl⟩ (Nat.le_of_ble_eq_true rfl) dX1_readDial_27 (fun r13 σ12 => ?_)
      refine go_istore_n C [(3, .int r13), (2, .int r5), (0, .ref (fh_ad E k1)), (1, .ref (fh_ad E k2))] rfl rfl (by decide) dX1_readDial_30 ?_
      refine go_aload_n C 2 rfl rfl dX1_readDial_31 ?_
      refine go_ldcS C 8 rfl dX1_readDial_32 ?_
      refine go_callVI C (st := []) [.ref (fh_aK E 8)] (m_X1_takeWord E _ hok k1 8 σ12) (fun _ h => fh_ob_ok h) rfl rfl ⟨q_558, q_560, qs_11, q_4, q_561⟩ pd_X1_takeWord rfl ⟨⟨Nat.le_of_ble_eq_true rfl, Nat.le_of_ble_eq_true rfl⟩, rfl, rfl⟩ (Nat.le_of_ble_eq_true rfl) dX1_readDial_34 (fun r15 σ14 => ?_)
      refine go_jn (fun (j51 : fh_S → Option (Unit × fh_S)) => ∀ (σ16 : fh_S), fh_Go E M 5 fh_vU 53 [(0, .ref (fh_ad E k1)), (1, .ref (fh_ad E k2)), (3, .int r13)] [] σ16 (j51 σ16)) ?_ (fun j51 hj51 => ?_)
      · intro σ16
        refine go_aload_n C 0 rfl rfl dX1_readDial_53 ?_
        refine go_ldcS C 9 rfl dX1_readDial_54 ?_
        refine go_callVI C (st := []) [.ref (fh_aK E 9)] (m_X1_takeWord E _ hok k1 9 σ16) (fun _ h => fh_ob_ok h) rfl rfl ⟨q_558, q_560, qs_11, q_4, q_561⟩ pd_X1_takeWord rfl ⟨⟨Nat.le_of_ble_eq_true rfl, Nat.le_of_ble_eq_true rfl⟩, rfl, rfl⟩ (Nat.le_of_ble_eq_true rfl) dX1_readDial_56 (fun r18 σ17 => ?_)
        refine go_jn (fun (j45 : fh_S → Option (Unit × fh_S)) => ∀ (σ19 : fh_S), fh_Go E M 5 fh_vU 78 [(0, .ref (fh_ad E k1)), (1, .ref (fh_ad E k2)), (3, .int r13)] [] σ19 (j45 σ19)) ?_ (fun j45 hj45 => ?_)
        · intro σ19
          refine go_aload_n C 0 rfl rfl dX1_readDial_78 ?_
          refine go_ldcS C 10 rfl dX1_readDial_79 ?_
          refine go_callVI C (st := []) [.ref (fh_aK E 10)] (m_X1_takeWord E _ hok k1 10 σ19) (fun _ h => fh_ob_ok h) rfl rfl ⟨q_558, q_560, qs_11, q_4, q_561⟩ pd_X1_takeWord rfl ⟨⟨Nat.le_of_ble_eq_true rfl, Nat.le_of_ble_eq_true rfl⟩, rfl, rfl⟩ (Nat.le_of_ble_eq_true rfl) dX1_readDial_81 (fun r21 σ20 => ?_)
          refine go_jn (fun (j35 : fh_S → Option (Unit × fh_S)) => ∀ (σ22 : fh_S), fh_Go E M 5 fh_vU 118 [(0, .ref (fh_ad E k1)), (1, .ref (fh_ad E k2)), (3, .int r13)] [] σ22 (j35 σ22)) ?_ (fun j35 hj35 => ?_)
          · intro σ22
            refine go_aload_n C 0 rfl rfl dX1_readDial_118 ?_
            refine go_ldcS C 11 rfl dX1_readDial_119 ?_
            refine go_callVI C (st := []) [.ref (fh_aK E 11)] (m_X1_takeWord E _ hok k1 11 σ22) (fun _ h => fh_ob_ok h) rfl rfl ⟨q_558, q_560, qs_11, q_4, q_561⟩ pd_X1_takeWord rfl ⟨⟨Nat.le_of_ble_eq_true rfl, Nat.le_of_ble_eq_true rfl⟩, rfl, rfl⟩ (Nat.le_of_ble_eq_true rfl) dX1_readDial_121 (fun r24 σ23 => ?_)
            refine go_jn (fun (j30 : fh_S → Option (Unit × fh_S)) => ∀ (σ25 : fh_S), fh_Go E M 5 fh_vU 139 [(0, .ref (fh_ad E k1)), (1, .ref (fh_ad E k2)), (3, .int r13)] [] σ25 (j30 σ25)) ?_ (fun j30 hj30 => ?_)
            · intro σ25
              refine go_aload_n C 0 rfl rfl dX1_readDial_139 ?_
              refine go_ldcS C 12 rfl dX1_readDial_140 ?_
              refine go_callVI C (st := []) [.ref (fh_aK E 12)] (m_X1_takeWord E _ hok k1 12 σ25) (fun _ h => fh_ob_ok h) rfl rfl ⟨q_558, q_560, qs_11, q_4, q_561⟩ pd_X1_takeWord rfl ⟨⟨Nat.le_of_ble_eq_true rfl, Nat.le_of_ble_eq_true rfl⟩, rfl, rfl⟩ (Nat.le_of_ble_eq_true rfl) dX1_readDial_142 (fun r27 σ26 => ?_)
              refine go_if_eq (tgt := 154) C dX1_readDial_145 rfl (fun _ => ?_) (fun _ => ?_)
              · exact go_vret C Hr rfl dX1_readDial_154
              · refine go_aload_n C 1 rfl rfl dX1_readDial_148 ?_
                refine go_iload_n C 2 rfl rfl dX1_readDial_149 ?_
                refine go_callVI C (st := []) [.int r13] (m_X0_freeze E _ hok k2 r13 σ26) (fun _ h => fh_ob_ok h) rfl rfl ⟨q_656, q_254, q_255, q_2, q_256⟩ pd_X0_freeze rfl ⟨⟨Nat.le_of_ble_eq_true rfl, Nat.le_of_ble_eq_true rfl⟩, rfl, rfl⟩ (Nat.le_of_ble_eq_true rfl) dX1_readDial_150 (fun r29 σ28 => ?_)
                refine go_pop C rfl dX1_readDial_153 ?_
                exact go_vret C Hr rfl dX1_readDial_154
            refine go_if_eq (tgt := 139) C dX1_readDial_124 rfl (fun _ => ?_) (fun _ => ?_)
            · exact hj30 σ23
            · refine go_aload_n C 1 rfl rfl dX1_readDial_127 ?_
              refine go_gr (ci := 0) (j := 5) C fh_in0 rfl (by decide) rfl q_41 dX1_readDial_128 (fun k31 => ?_)
              refine go_iload_n C 2 rfl rfl dX1_readDial_131 ?_
              refine go_aload_n C 0 rfl rfl dX1_readDial_132 ?_
              refine go_bipush C (9 : Int32) dX1_readDial_133 rfl ?_
              refine go_callVI C (st := [.int r13, .ref (fh_ad E k31)]) [.int ((9 : Int32))] (m_X1_takeNumber E _ hok k1 ((9 : Int32)) σ23) (fun _ h => fh_ob_ok h) rfl rfl ⟨q_618, q_620, qs_14, q_4, q_621⟩ pd_X1_takeNumber rfl ⟨⟨Nat.le_of_ble_eq_true rfl, Nat.le_of_ble_eq_true rfl⟩, rfl, rfl⟩ (Nat.le_of_ble_eq_true rfl) dX1_readDial_135 (fun r33 σ32 => ?_)
              refine go_iast C dX1_readDial_138 (fun σ34 => ?_)
              exact hj30 σ34
          refine go_if_eq (tgt := 118) C dX1_readDial_84 rfl (fun _ => ?_) (fun _ => ?_)
          · exact hj35 σ20
          · refine go_aload_n C 0 rfl rfl dX1_readDial_87 ?_
            refine go_bipush C (45 : Int32) dX1_readDial_88 rfl ?_
            refine go_callVI C (st := []) [.int ((45 : Int32))] (m_X1_takeSign E _ hok k1 ((45 : Int32)) σ20) (fun _ h => fh_ob_ok h) rfl rfl ⟨q_650, q_652, qs_18, q_4, q_653⟩ pd_X1_takeSign rfl ⟨⟨Nat.le_of_ble_eq_true rfl, Nat.le_of_ble_eq_true rfl⟩, rfl, rfl⟩ (Nat.le_of_ble_eq_true rfl) dX1_readDial_90 (fun r37 σ36 => ?_)
            refine go_jn (fun (j44 : Int32 → fh_S → Option (Unit × fh_S)) => ∀ (x38 : Int32) (σ39 : fh_S), fh_Go E M 5 fh_vU 101 [(0, .ref (fh_ad E k1)), (1, .ref (fh_ad E k2)), (3, .int r13)] [.int x38] σ39 (j44 x38 σ39)) ?_ (fun j44 hj44 => ?_)
            · intro x38 σ39
              refine go_istore C [(4, .int x38), (0, .ref (fh_ad E k1)), (1, .ref (fh_ad E k2)), (3, .int r13)] rfl (by decide) dX1_readDial_101 ?_
              refine go_aload_n C 2 rfl rfl dX1_readDial_103 ?_
              refine go_gr (ci := 0) (j := 3) C fh_in0 rfl (by decide) rfl q_37 dX1_readDial_104 (fun k40 => ?_)
              refine go_iload_n C 3 rfl rfl dX1_readDial_107 ?_
              refine go_iload C 0 rfl dX1_readDial_108 ?_
              refine go_aload_n C 1 rfl rfl dX1_readDial_110 ?_
              refine go_bipush C (99 : Int32) dX1_readDial_111 rfl ?_
              refine go_callVI C (st := [.int x38, .int r13, .ref (fh_ad E k40)]) [.int ((99 : Int32))] (m_X1_takeNumber E _ hok k1 ((99 : Int32)) σ39) (fun _ h => fh_ob_ok h) rfl rfl ⟨q_618, q_620, qs_14, q_4, q_621⟩ pd_X1_takeNumber rfl ⟨⟨Nat.le_of_ble_eq_true rfl, Nat.le_of_ble_eq_true rfl⟩, rfl, rfl⟩ (Nat.le_of_ble_eq_true rfl) dX1_readDial_113 (fun r42 σ41 => ?_)
              refine go_imul C dX1_readDial_116 ?_
              refine go_iast C dX1_readDial_117 (fun σ43 => ?_)
              refine go_lv [1, 2, 3] (lv' := [(0, .ref (fh_ad E k1)), (1, .ref (fh_ad E k2)), (3, .int r13)]) rfl ?_
              exact hj35 σ43
            refine go_if_eq (tgt := 100) C dX1_readDial_93 rfl (fun _ => ?_) (fun _ => ?_)
            · refine go_iconst C (1 : Int32) dX1_readDial_100 rfl ?_
              exact hj44 ((1 : Int32)) σ36
            · refine go_iconst C (-1 : Int32) dX1_readDial_96 rfl ?_
              refine go_goto C 101 dX1_readDial_97 rfl ?_
              exact hj44 ((-1 : Int32)) σ36
        refine go_if_eq (tgt := 78) C dX1_readDial_59 rfl (fun _ => ?_) (fun _ => ?_)
        · exact hj45 σ17
        · refine go_aload_n C 1 rfl rfl dX1_readDial_62 ?_
          refine go_gr (ci := 0) (j := 2) C fh_in0 rfl (by decide) rfl q_34 dX1_readDial_63 (fun k46 => ?_)
          refine go_iload_n C 2 rfl rfl dX1_readDial_66 ?_
          refine go_aload_n C 0 rfl rfl dX1_readDial_67 ?_
          refine go_aload_n C 1 rfl rfl dX1_readDial_68 ?_
          refine go_gi (ci := 0) (j := 9) C fh_in0 rfl (by decide) rfl q_47 dX1_readDial_69 (fun v47 => ?_)
          refine go_iconst C (1 : Int32) dX1_readDial_72 rfl ?_
          refine go_isub C dX1_readDial_73 ?_
          refine go_callVI C (st := [.int r13, .ref (fh_ad E k46)]) [.int (v47 - ((1 : Int32)))] (m_X1_takeNumber E _ hok k1 (v47 - ((1 : Int32))) σ17) (fun _ h => fh_ob_ok h) rfl rfl ⟨q_618, q_620, qs_14, q_4, q_621⟩ pd_X1_takeNumber rfl ⟨⟨Nat.le_of_ble_eq_true rfl, Nat.le_of_ble_eq_true rfl⟩, rfl, rfl⟩ (Nat.le_of_ble_eq_true rfl) dX1_readDial_74 (fun r49 σ48 => ?_)
          refine go_iast C dX1_readDial_77 (fun σ50 => ?_)
          exact hj45 σ50
      refine go_if_eq (tgt := 53) C dX1_readDial_37 rfl (fun _ => ?_) (fun _ => ?_)
      · refine go_lv [2, 3, 0] (lv' := [(0, .ref (fh_ad E k1)), (1, .ref (fh_ad E k2)), (3, .int r13)]) rfl ?_
        exact hj51 σ14
      · refine go_aload_n C 3 rfl rfl dX1_readDial_40 ?_
        refine go_gr (ci := 0) (j := 1) C fh_in0 rfl (by decide) rfl q_31 dX1_readDial_41 (fun k52 => ?_)
        refine go_iload_n C 0 rfl rfl dX1_readDial_44 ?_
        refine go_aload_n C 2 rfl rfl dX1_readDial_45 ?_
        refine go_sipush C (719 : Int32) dX1_readDial_46 rfl ?_
        refine go_callVI C (st := [.int r13, .ref (fh_ad E k52)]) [.int ((719 : Int32))] (m_X1_takeNumber E _ hok k1 ((719 : Int32)) σ14) (fun _ h => fh_ob_ok h) rfl rfl ⟨q_618, q_620, qs_14, q_4, q_621⟩ pd_X1_takeNumber rfl ⟨⟨Nat.le_of_ble_eq_true rfl, Nat.le_of_ble_eq_true rfl⟩, rfl, rfl⟩ (Nat.le_of_ble_eq_true rfl) dX1_readDial_49 (fun r54 σ53 => ?_)
        refine go_iast C dX1_readDial_52 (fun σ55 => ?_)
        refine go_lv [2, 3, 0] (lv' := [(0, .ref (fh_ad E k1)), (1, .ref (fh_ad E k2)), (3, .int r13)]) rfl ?_
        exact hj51 σ55
    · refine go_lv [1] (lv' := [(0, .ref (fh_ad E k1))]) rfl ?_
      exact hj8 σ9
theorem m_X1_readDial (E : fh_E) (l : Launch) (hok : fh_ok E) (k1 : Nat) (k2 : Nat) (σ3 : fh_S) : fh_Met E l yX1_readDial cX1_readDial 5 (none) rm_X1_readDial fh_vU [.ref (fh_ad E k1), .ref (fh_ad E k2)] σ3 (f_X1_readDial k1 k2 σ3) := fh_met hok (by decide +kernel) (Nat.le_of_ble_eq_true rfl) (fun M _ C Hr => g_X1_readDial C Hr k1 k2 σ3)
def f_X1_readMaster (k1 : Nat) (k2 : Nat) (σ3 : fh_S) : Option (Unit × fh_S) := fh_ob 1 k1 ((fh_gi σ3 0 k2 9).bind fun v4 => fh_cb (f_X1_takeNumber k1 (v4 - ((1 : Int32))) σ3) fun r6 σ5 => (fh_gi σ5 0 k2 9).bind fun v7 => fh_cb (f_X1_takeNumber k1 (v7 - ((1 : Int32))) σ5) fun r9 σ8 => (fh_gi σ8 1 k1 5).bind fun v10 => if v10 = ((-1 : Int32)) then (fh_gr 0 k2 2).bind fun k11 => (fh_st σ8 k11 r6 r9).bind fun σ12 => some ((), σ12) else some ((), σ8))
abbrev rm_X1_readMaster : Room := { frames := 4, cells := 0, slots := 0, locals := 84 }
theorem pd_X1_readMaster : yX1_readMaster.cls ≠ "java/lang/invoke/MethodHandle" ∧ yX1_readMaster.cls ≠ "java/lang/invoke/VarHandle" ∧ (parseMethodDescriptor yX1_readMaster.desc).map (fun d => d.parameters.length) = some 1 := by decide +kernel
theorem dX1_readMaster_0 : decode cX1_readMaster 0 = .ok (.aload_n 0, 1) := by decide +kernel
theorem dX1_readMaster_1 : decode cX1_readMaster 1 = .ok (.aload_n 1, 1) := by decide +kernel
theorem dX1_readMaster_2 : decode cX1_readMaster 2 = .ok (.getfield 48, 3) := by decide +kernel
theorem dX1_readMaster_5 : decode cX1_readMaster 5 = .ok (.iconst 1, 1) := by decide +kernel
theorem dX1_readMaster_6 : decode cX1_readMaster 6 = .ok (.isub, 1) := by decide +kernel
theorem dX1_readMaster_7 : decode cX1_readMaster 7 = .ok (.invokevirtual 53, 3) := by decide +kernel
theorem dX1_readMaster_10 : decode cX1_readMaster 10 = .ok (.istore_n 2, 1) := by decide +kernel
theorem dX1_readMaster_11 : decode cX1_readMaster 11 = .ok (.aload_n 0, 1) := by decide +kernel
theorem dX1_readMaster_12 : decode cX1_readMaster 12 = .ok (.aload_n 1, 1) := by decide +kernel
theorem dX1_readMaster_13 : decode cX1_readMaster 13 = .ok (.getfield 48, 3) := by decide +kernel
theorem dX1_readMaster_16 : decode cX1_readMaster 16 = .ok (.iconst 1, 1) := by decide +kernel
theorem dX1_readMaster_17 : decode cX1_readMaster 17 = .ok (.isub, 1) := by decide +kernel
theorem dX1_readMaster_18 : decode cX1_readMaster 18 = .ok (.invokevirtual 53, 3) := by decide +kernel
theorem dX1_readMaster_21 : decode cX1_readMaster 21 = .ok (.istore_n 3, 1) := by decide +kernel
theorem dX1_readMaster_22 : decode cX1_readMaster 22 = .ok (.aload_n 0, 1) := by decide +kernel
theorem dX1_readMaster_23 : decode cX1_readMaster 23 = .ok (.getfield 15, 3) := by decide +kernel
theorem dX1_readMaster_26 : decode cX1_readMaster 26 = .ok (.iconst (-1), 1) := by decide +kernel
theorem dX1_readMaster_27 : decode cX1_readMaster 27 = .ok (.if_icmp .ne 10, 3) := by decide +kernel
theorem dX1_readMaster_30 : decode cX1_readMaster 30 = .ok (.aload_n 1, 1) := by decide +kernel
theorem dX1_readMaster_31 : decode cX1_readMaster 31 = .ok (.getfield 57, 3) := by decide +kernel
theorem dX1_readMaster_34 : decode cX1_readMaster 34 = .ok (.iload_n 2, 1) := by decide +kernel
theorem dX1_readMaster_35 : decode cX1_readMaster 35 = .ok (.iload_n 3, 1) := by decide +kernel
theorem dX1_readMaster_36 : decode cX1_readMaster 36 = .ok (.iastore, 1) := by decide +kernel
theorem dX1_readMaster_37 : decode cX1_readMaster 37 = .ok (.return_, 1) := by decide +kernel
set_option maxHeartbeats 4000000 in
set_option maxRecDepth 100000 in
theorem g_X1_readMaster {E : fh_E} {M : fh_M} (C : fh_Cx E M cX1_readMaster 4 RX1 (none) rm_X1_readMaster) (Hr : fh_Rt E M) (k1 : Nat) (k2 : Nat) (σ3 : fh_S) : fh_Go E M 4 fh_vU 0 [(0, .ref (fh_ad E k1)), (1, .ref (fh_ad E k2))] [] σ3 (f_X1_readMaster k1 k2 σ3) := by
  have hok := fh_cok C
  refine go_ob ?_
  refine go_aload_n C 0 rfl rfl dX1_readMaster_0 ?_
  refine go_aload_n C 1 rfl rfl dX1_readMaster_1 ?_
  refine go_gi (ci := 0) (j := 9) C fh_in0 rfl (by decide) rfl q_47 dX1_readMaster_2 (fun v4 => ?_)
  refine go_iconst C (1 : Int32) dX1_readMaster_5 rfl ?_
  refine go_isub C dX1_readMaster_6 ?_
  refine go_callVI C (st := []) [.int (v4 - ((1 : Int32)))] (m_X1_takeNumber E _ hok k1 (v4 - ((1 : Int32))) σ3) (fun _ h => fh_ob_ok h) rfl rfl ⟨q_618, q_620, qs_14, q_4, q_621⟩ pd_X1_takeNumber rfl ⟨⟨Nat.le_of_ble_eq_true rfl, Nat.le_of_ble_eq_true rfl⟩, rfl, rfl⟩ (Nat.le_of_ble_eq_true rfl) dX1_readMaster_7 (fun r6 σ5 => ?_)
  refine go_istore_n C [(2, .int r6), (0, .ref (fh_ad E k1)), (1, .ref (fh_ad E k2))] rfl rfl (by decide) dX1_readMaster_10 ?_
  refine go_aload_n C 1 rfl rfl dX1_readMaster_11 ?_
  refine go_aload_n C 2 rfl rfl dX1_readMaster_12 ?_
  refine go_gi (ci := 0) (j := 9) C fh_in0 rfl (by decide) rfl q_47 dX1_readMaster_13 (fun v7 => ?_)
  refine go_iconst C (1 : Int32) dX1_readMaster_16 rfl ?_
  refine go_isub C dX1_readMaster_17 ?_
  refine go_callVI C (st := []) [.int (v7 - ((1 : Int32)))] (m_X1_takeNumber E _ hok k1 (v7 - ((1 : Int32))) σ5) (fun _ h => fh_ob_ok h) rfl rfl ⟨q_618, q_620, qs_14, q_4, q_621⟩ pd_X1_takeNumber rfl ⟨⟨Nat.le_of_ble_eq_true rfl, Nat.le_of_ble_eq_true rfl⟩, rfl, rfl⟩ (Nat.le_of_ble_eq_true rfl) dX1_readMaster_18 (fun r9 σ8 => ?_)
  refine go_istore_n C [(3, .int r9), (2, .int r6), (0, .ref (fh_ad E k1)), (1, .ref (fh_ad E k2))] rfl rfl (by decide) dX1_readMaster_21 ?_
  refine go_aload_n C 2 rfl rfl dX1_readMaster_22 ?_
  refine go_gi (ci := 1) (j := 5) C fh_in1 rfl (by decide) rfl q_104 dX1_readMaster_23 (fun v10 => ?_)
  refine go_iconst C (-1 : Int32) dX1_readMaster_26 rfl ?_
  refine go_icmp_ne (tgt := 37) C dX1_readMaster_27 rfl (fun _ => ?_) (fun _ => ?_)
  · exact go_vret C Hr rfl dX1_readMaster_37
  · refine go_aload_n C 3 rfl rfl dX1_readMaster_30 ?_
    refine go_gr (ci := 0) (j := 2) C fh_in0 rfl (by decide) rfl q_34 dX1_readMaster_31 (fun k11 => ?_)
    refine go_iload_n C 1 rfl rfl dX1_readMaster_34 ?_
    refine go_iload_n C 0 rfl rfl dX1_readMaster_35 ?_
    refine go_iast C dX1_readMaster_36 (fun σ12 => ?_)
    exact go_vret C Hr rfl dX1_readMaster_37
theorem m_X1_readMaster (E : fh_E) (l : Launch) (hok : fh_ok E) (k1 : Nat) (k2 : Nat) (σ3 : fh_S) : fh_Met E l yX1_readMaster cX1_readMaster 4 (none) rm_X1_readMaster fh_vU [.ref (fh_ad E k1), .ref (fh_ad E k2)] σ3 (f_X1_readMaster k1 k2 σ3) := fh_met hok (by decide +kernel) (Nat.le_of_ble_eq_true rfl) (fun M _ C Hr => g_X1_readMaster C Hr k1 k2 σ3)
def f_X1_readInto_J74 (k1 : Nat) (x7 : Int32) : fh_S → Option (Int32 × fh_S) := fun σ13 => (fh_gi σ13 1 k1 5).bind fun v14 => if v14 = ((-1 : Int32)) then some (x7, σ13) else (fh_gi σ13 1 k1 5).bind fun v15 => some (((-1 : Int32)) - v15, σ13)
def f_X1_readInto_J63 (k1 : Nat) (x7 : Int32) : fh_S → Option (Int32 × fh_S) := fun σ11 => (fh_gi σ11 1 k1 1).bind fun v12 => fh_jn (f_X1_readInto_J74 k1 x7) (fun j16 => if v12 = 0 then j16 σ11 else fh_cb (f_X1_refuse k1 σ11) fun _ σ17 => j16 σ17)
def f_X1_readInto_J50 (k1 : Nat) (r10 : Int32 → Int32 → fh_S → Option (Int32 × fh_S)) (x7 : Int32) : fh_S → Option (Int32 × fh_S) := fun σ21 => fh_cb (f_X1_takeSign k1 ((59 : Int32)) σ21) fun r23 σ22 => r10 (x7 + 1) r23 σ22
def f_X1_readInto_B18 (k1 : Nat) (k2 : Nat) (r10 : Int32 → Int32 → fh_S → Option (Int32 × fh_S)) : Int32 → Int32 → fh_S → Option (Int32 × fh_S) := fun x7 x8 σ9 => fh_jn (f_X1_readInto_J63 k1 x7) (fun j18 => if x8 = 0 then j18 σ9 else if ((120 : Int32)) < x7 then j18 σ9 else fh_cb (f_X1_takeWord k1 7 σ9) fun r20 σ19 => fh_jn (f_X1_readInto_J50 k1 r10 x7) (fun j24 => if r20 = 0 then fh_cb (f_X1_readDial k1 k2 σ19) fun _ σ25 => j24 σ25 else fh_cb (f_X1_readMaster k1 k2 σ19) fun _ σ26 => j24 σ26))
def f_X1_readInto (k1 : Nat) (k2 : Nat) (σ3 : fh_S) : Option (Int32 × fh_S) := fh_ob 1 k1 ((fh_pf σ3 1 k1 5 ((-1 : Int32))).bind fun σ4 => (fh_pf σ4 1 k1 3 ((0 : Int32))).bind fun σ5 => fh_cb (f_X1_findToken k1 σ5) fun _ σ6 => fh_fx (ρ := Int32 → Int32 → fh_S → Option (Int32 × fh_S)) (fun _ _ _ => none) (f_X1_readInto_B18 k1 k2) fh_fu ((0 : Int32)) ((1 : Int32)) σ6)
abbrev rm_X1_readInto : Room := { frames := 7, cells := 0, slots := 0, locals := 152 }
theorem pd_X1_readInto : yX1_readInto.cls ≠ "java/lang/invoke/MethodHandle" ∧ yX1_readInto.cls ≠ "java/lang/invoke/VarHandle" ∧ (parseMethodDescriptor yX1_readInto.desc).map (fun d => d.parameters.length) = some 1 := by decide +kernel
theorem dX1_readInto_0 : decode cX1_readInto 0 = .ok (.aload_n 0, 1) := by decide +kernel
theorem dX1_readInto_1 : decode cX1_readInto 1 = .ok (.iconst (-1), 1) := by decide +kernel
theorem dX1_readInto_2 : decode cX1_readInto 2 = .ok (.putfield 15, 3) := by decide +kernel
theorem dX1_readInto_5 : decode cX1_readInto 5 = .ok (.aload_n 0, 1) := by decide +kernel
theorem dX1_readInto_6 : decode cX1_readInto 6 = .ok (.iconst 0, 1) := by decide +kernel
theorem dX1_readInto_7 : decode cX1_readInto 7 = .ok (.putfield 19, 3) := by decide +kernel
theorem dX1_readInto_10 : decode cX1_readInto 10 = .ok (.aload_n 0, 1) := by decide +kernel
theorem dX1_readInto_11 : decode cX1_readInto 11 = .ok (.invokevirtual 22, 3) := by decide +kernel
theorem dX1_readInto_14 : decode cX1_readInto 14 = .ok (.iconst 0, 1) := by decide +kernel
theorem dX1_readInto_15 : decode cX1_readInto 15 = .ok (.istore_n 2, 1) := by decide +kernel
theorem dX1_readInto_16 : decode cX1_readInto 16 = .ok (.iconst 1, 1) := by decide +kernel
theorem dX1_readInto_17 : decode cX1_readInto 17 = .ok (.istore_n 3, 1) := by decide +kernel
theorem dX1_readInto_18 : decode cX1_readInto 18 = .ok (.iload_n 3, 1) := by decide +kernel
theorem dX1_readInto_19 : decode cX1_readInto 19 = .ok (.ifCond .eq 44, 3) := by decide +kernel
theorem dX1_readInto_22 : decode cX1_readInto 22 = .ok (.iload_n 2, 1) := by decide +kernel
theorem dX1_readInto_23 : decode cX1_readInto 23 = .ok (.bipush 120, 2) := by decide +kernel
theorem dX1_readInto_25 : decode cX1_readInto 25 = .ok (.if_icmp .gt 38, 3) := by decide +kernel
theorem dX1_readInto_28 : decode cX1_readInto 28 = .ok (.aload_n 0, 1) := by decide +kernel
theorem dX1_readInto_29 : decode cX1_readInto 29 = .ok (.ldc 25, 2) := by decide +kernel
theorem dX1_readInto_31 : decode cX1_readInto 31 = .ok (.invokevirtual 27, 3) := by decide +kernel
theorem dX1_readInto_34 : decode cX1_readInto 34 = .ok (.ifCond .eq 11, 3) := by decide +kernel
theorem dX1_readInto_37 : decode cX1_readInto 37 = .ok (.aload_n 0, 1) := by decide +kernel
theorem dX1_readInto_38 : decode cX1_readInto 38 = .ok (.aload_n 1, 1) := by decide +kernel
theorem dX1_readInto_39 : decode cX1_readInto 39 = .ok (.invokevirtual 31, 3) := by decide +kernel
theorem dX1_readInto_42 : decode cX1_readInto 42 = .ok (.goto 8, 3) := by decide +kernel
theorem dX1_readInto_45 : decode cX1_readInto 45 = .ok (.aload_n 0, 1) := by decide +kernel
theorem dX1_readInto_46 : decode cX1_readInto 46 = .ok (.aload_n 1, 1) := by decide +kernel
theorem dX1_readInto_47 : decode cX1_readInto 47 = .ok (.invokevirtual 35, 3) := by decide +kernel
theorem dX1_readInto_50 : decode cX1_readInto 50 = .ok (.iinc 2 1, 3) := by decide +kernel
theorem dX1_readInto_53 : decode cX1_readInto 53 = .ok (.aload_n 0, 1) := by decide +kernel
theorem dX1_readInto_54 : decode cX1_readInto 54 = .ok (.bipush 59, 2) := by decide +kernel
theorem dX1_readInto_56 : decode cX1_readInto 56 = .ok (.invokevirtual 38, 3) := by decide +kernel
theorem dX1_readInto_59 : decode cX1_readInto 59 = .ok (.istore_n 3, 1) := by decide +kernel
theorem dX1_readInto_60 : decode cX1_readInto 60 = .ok (.goto (-42), 3) := by decide +kernel
theorem dX1_readInto_63 : decode cX1_readInto 63 = .ok (.aload_n 0, 1) := by decide +kernel
theorem dX1_readInto_64 : decode cX1_readInto 64 = .ok (.getfield 42, 3) := by decide +kernel
theorem dX1_readInto_67 : decode cX1_readInto 67 = .ok (.ifCond .eq 7, 3) := by decide +kernel
theorem dX1_readInto_70 : decode cX1_readInto 70 = .ok (.aload_n 0, 1) := by decide +kernel
theorem dX1_readInto_71 : decode cX1_readInto 71 = .ok (.invokevirtual 45, 3) := by decide +kernel
theorem dX1_readInto_74 : decode cX1_readInto 74 = .ok (.aload_n 0, 1) := by decide +kernel
theorem dX1_readInto_75 : decode cX1_readInto 75 = .ok (.getfield 15, 3) := by decide +kernel
theorem dX1_readInto_78 : decode cX1_readInto 78 = .ok (.iconst (-1), 1) := by decide +kernel
theorem dX1_readInto_79 : decode cX1_readInto 79 = .ok (.if_icmp .ne 7, 3) := by decide +kernel
theorem dX1_readInto_82 : decode cX1_readInto 82 = .ok (.iload_n 2, 1) := by decide +kernel
theorem dX1_readInto_83 : decode cX1_readInto 83 = .ok (.goto 9, 3) := by decide +kernel
theorem dX1_readInto_86 : decode cX1_readInto 86 = .ok (.iconst (-1), 1) := by decide +kernel
theorem dX1_readInto_87 : decode cX1_readInto 87 = .ok (.aload_n 0, 1) := by decide +kernel
theorem dX1_readInto_88 : decode cX1_readInto 88 = .ok (.getfield 15, 3) := by decide +kernel
theorem dX1_readInto_91 : decode cX1_readInto 91 = .ok (.isub, 1) := by decide +kernel
theorem dX1_readInto_92 : decode cX1_readInto 92 = .ok (.ireturn, 1) := by decide +kernel
set_option maxHeartbeats 4000000 in
set_option maxRecDepth 100000 in
theorem g_X1_readInto {E : fh_E} {M : fh_M} (C : fh_Cx E M cX1_readInto 4 RX1 ((some FieldType.int)) rm_X1_readInto) (Hr : fh_Rt E M) (k1 : Nat) (k2 : Nat) (σ3 : fh_S) : fh_Go E M 4 fh_vI 0 [(0, .ref (fh_ad E k1)), (1, .ref (fh_ad E k2))] [] σ3 (f_X1_readInto k1 k2 σ3) := by
  have hok := fh_cok C
  refine go_ob ?_
  refine go_aload_n C 0 rfl rfl dX1_readInto_0 ?_
  refine go_iconst C (-1 : Int32) dX1_readInto_1 rfl ?_
  refine go_pf (ci := 1) (j := 5) C tyX1 tyX1_ok nmX1 fh_in1 rfl (by decide) rfl q_104 rfl rfl dX1_readInto_2 (fun σ4 => ?_)
  refine go_aload_n C 0 rfl rfl dX1_readInto_5 ?_
  refine go_iconst C (0 : Int32) dX1_readInto_6 rfl ?_
  refine go_pf (ci := 1) (j := 3) C tyX1 tyX1_ok nmX1 fh_in1 rfl (by decide) rfl q_102 rfl rfl dX1_readInto_7 (fun σ5 => ?_)
  refine go_aload_n C 0 rfl rfl dX1_readInto_10 ?_
  refine go_callVU C (st := []) [] (m_X1_findToken E _ hok k1 σ5) (fun _ h => fh_ob_ok h) rfl rfl ⟨q_534, q_536, qs_8, q_4, q_537⟩ pd_X1_findToken rfl ⟨⟨Nat.le_of_ble_eq_true rfl, Nat.le_of_ble_eq_true rfl⟩, rfl, rfl⟩ (Nat.le_of_ble_eq_true rfl) dX1_readInto_11 (fun _ σ6 => ?_)
  refine go_iconst C (0 : Int32) dX1_readInto_14 rfl ?_
  refine go_istore_n C [(2, .int ((0 : Int32))), (0, .ref (fh_ad E k1)), (1, .ref (fh_ad E k2))] rfl rfl (by decide) dX1_readInto_15 ?_
  refine go_iconst C (1 : Int32) dX1_readInto_16 rfl ?_
  refine go_istore_n C [(3, .int ((1 : Int32))), (2, .int ((0 : Int32))), (0, .ref (fh_ad E k1)), (1, .ref (fh_ad E k2))] rfl rfl (by decide) dX1_readInto_17 ?_
  refine go_lv [2, 3, 1, 0] (lv' := [(0, .ref (fh_ad E k1)), (1, .ref (fh_ad E k2)), (2, .int ((0 : Int32))), (3, .int ((1 : Int32)))]) rfl ?_
  refine go_fx (fun (r10 : Int32 → Int32 → fh_S → Option (Int32 × fh_S)) => ∀ (x7 : Int32) (x8 : Int32) (σ9 : fh_S), fh_Go E M 4 fh_vI 18 [(0, .ref (fh_ad E k1)), (1, .ref (fh_ad E k2)), (2, .int x7), (3, .int x8)] [] σ9 (r10 x7 x8 σ9)) ?_ ?_ fh_fu ((0 : Int32)) ((1 : Int32)) σ6
  · intro x7 x8 σ9
    exact go_none
  · intro r10 hr10 x7 x8 σ9
    refine go_iload_n C 3 rfl rfl dX1_readInto_18 ?_
    refine go_jn (fun (j18 : fh_S → Option (Int32 × fh_S)) => ∀ (σ11 : fh_S), fh_Go E M 4 fh_vI 63 [(0, .ref (fh_ad E k1)), (2, .int x7)] [] σ11 (j18 σ11)) ?_ (fun j18 hj18 => ?_)
    · intro σ11
      refine go_aload_n C 0 rfl rfl dX1_readInto_63 ?_
      refine go_gi (ci := 1) (j := 1) C fh_in1 rfl (by decide) rfl q_100 dX1_readInto_64 (fun v12 => ?_)
      refine go_jn (fun (j16 : fh_S → Option (Int32 × fh_S)) => ∀ (σ13 : fh_S), fh_Go E M 4 fh_vI 74 [(0, .ref (fh_ad E k1)), (2, .int x7)] [] σ13 (j16 σ13)) ?_ (fun j16 hj16 => ?_)
      · intro σ13
        refine go_aload_n C 0 rfl rfl dX1_readInto_74 ?_
        refine go_gi (ci := 1) (j := 5) C fh_in1 rfl (by decide) rfl q_104 dX1_readInto_75 (fun v14 => ?_)
        refine go_iconst C (-1 : Int32) dX1_readInto_78 rfl ?_
        refine go_icmp_ne (tgt := 86) C dX1_readInto_79 rfl (fun _ => ?_) (fun _ => ?_)
        · refine go_iconst C (-1 : Int32) dX1_readInto_86 rfl ?_
          refine go_aload_n C 0 rfl rfl dX1_readInto_87 ?_
          refine go_gi (ci := 1) (j := 5) C fh_in1 rfl (by decide) rfl q_104 dX1_readInto_88 (fun v15 => ?_)
          refine go_isub C dX1_readInto_91 ?_
          exact go_iret C Hr rfl dX1_readInto_92
        · refine go_iload_n C 1 rfl rfl dX1_readInto_82 ?_
          refine go_goto C 92 dX1_readInto_83 rfl ?_
          exact go_iret C Hr rfl dX1_readInto_92
      refine go_if_eq (tgt := 74) C dX1_readInto_67 rfl (fun _ => ?_) (fun _ => ?_)
      · exact hj16 σ11
      · refine go_aload_n C 0 rfl rfl dX1_readInto_70 ?_
        refine go_callVU C (st := []) [] (m_X1_refuse E _ hok k1 σ11) (fun _ h => fh_ob_ok h) rfl rfl ⟨q_622, q_624, qs_15, q_4, q_625⟩ pd_X1_refuse rfl ⟨⟨Nat.le_of_ble_eq_true rfl, Nat.le_of_ble_eq_true rfl⟩, rfl, rfl⟩ (Nat.le_of_ble_eq_true rfl) dX1_readInto_71 (fun _ σ17 => ?_)
        exact hj16 σ17
    refine go_if_eq (tgt := 63) C dX1_readInto_19 rfl (fun _ => ?_) (fun _ => ?_)
    · refine go_lv [0, 2] (lv' := [(0, .ref (fh_ad E k1)), (2, .int x7)]) rfl ?_
      exact hj18 σ9
    · refine go_iload_n C 2 rfl rfl dX1_readInto_22 ?_
      refine go_bipush C (120 : Int32) dX1_readInto_23 rfl ?_
      refine go_icmp_gt (tgt := 63) C dX1_readInto_25 rfl (fun _ => ?_) (fun _ => ?_)
      · refine go_lv [0, 2] (lv' := [(0, .ref (fh_ad E k1)), (2, .int x7)]) rfl ?_
        exact hj18 σ9
      · refine go_aload_n C 0 rfl rfl dX1_readInto_28 ?_
        refine go_ldcS C 7 rfl dX1_readInto_29 ?_
        refine go_callVI C (st := []) [.ref (fh_aK E 7)] (m_X1_takeWord E _ hok k1 7 σ9) (fun _ h => fh_ob_ok h) rfl rfl ⟨q_558, q_560, qs_11, q_4, q_561⟩ pd_X1_takeWord rfl ⟨⟨Nat.le_of_ble_eq_true rfl, Nat.le_of_ble_eq_true rfl⟩, rfl, rfl⟩ (Nat.le_of_ble_eq_true rfl) dX1_readInto_31 (fun r20 σ19 => ?_)
        refine go_jn (fun (j24 : fh_S → Option (Int32 × fh_S)) => ∀ (σ21 : fh_S), fh_Go E M 4 fh_vI 50 [(0, .ref (fh_ad E k1)), (1, .ref (fh_ad E k2)), (2, .int x7)] [] σ21 (j24 σ21)) ?_ (fun j24 hj24 => ?_)
        · intro σ21
          refine go_iinc C (x7 + 1) 2 [(2, .int (x7 + 1)), (0, .ref (fh_ad E k1)), (1, .ref (fh_ad E k2))] rfl rfl rfl (by decide) dX1_readInto_50 ?_
          refine go_aload_n C 1 rfl rfl dX1_readInto_53 ?_
          refine go_bipush C (59 : Int32) dX1_readInto_54 rfl ?_
          refine go_callVI C (st := []) [.int ((59 : Int32))] (m_X1_takeSign E _ hok k1 ((59 : Int32)) σ21) (fun _ h => fh_ob_ok h) rfl rfl ⟨q_650, q_652, qs_18, q_4, q_653⟩ pd_X1_takeSign rfl ⟨⟨Nat.le_of_ble_eq_true rfl, Nat.le_of_ble_eq_true rfl⟩, rfl, rfl⟩ (Nat.le_of_ble_eq_true rfl) dX1_readInto_56 (fun r23 σ22 => ?_)
          refine go_istore_n C [(3, .int r23), (2, .int (x7 + 1)), (0, .ref (fh_ad E k1)), (1, .ref (fh_ad E k2))] rfl rfl (by decide) dX1_readInto_59 ?_
          refine go_goto C 18 dX1_readInto_60 rfl ?_
          refine go_lv [2, 3, 1, 0] (lv' := [(0, .ref (fh_ad E k1)), (1, .ref (fh_ad E k2)), (2, .int (x7 + 1)), (3, .int r23)]) rfl ?_
          exact hr10 (x7 + 1) r23 σ22
        refine go_if_eq (tgt := 45) C dX1_readInto_34 rfl (fun _ => ?_) (fun _ => ?_)
        · refine go_aload_n C 0 rfl rfl dX1_readInto_45 ?_
          refine go_aload_n C 1 rfl rfl dX1_readInto_46 ?_
          refine go_callVU C (st := []) [.ref (fh_ad E k2)] (m_X1_readDial E _ hok k1 k2 σ19) (fun _ h => fh_ob_ok h) rfl rfl ⟨q_626, q_628, qs_16, q_4, q_629⟩ pd_X1_readDial rfl ⟨⟨Nat.le_of_ble_eq_true rfl, Nat.le_of_ble_eq_true rfl⟩, rfl, rfl⟩ (Nat.le_of_ble_eq_true rfl) dX1_readInto_47 (fun _ σ25 => ?_)
          refine go_lv [0, 1, 2] (lv' := [(0, .ref (fh_ad E k1)), (1, .ref (fh_ad E k2)), (2, .int x7)]) rfl ?_
          exact hj24 σ25
        · refine go_aload_n C 0 rfl rfl dX1_readInto_37 ?_
          refine go_aload_n C 1 rfl rfl dX1_readInto_38 ?_
          refine go_callVU C (st := []) [.ref (fh_ad E k2)] (m_X1_readMaster E _ hok k1 k2 σ19) (fun _ h => fh_ob_ok h) rfl rfl ⟨q_614, q_616, qs_13, q_4, q_617⟩ pd_X1_readMaster rfl ⟨⟨Nat.le_of_ble_eq_true rfl, Nat.le_of_ble_eq_true rfl⟩, rfl, rfl⟩ (Nat.le_of_ble_eq_true rfl) dX1_readInto_39 (fun _ σ26 => ?_)
          refine go_goto C 50 dX1_readInto_42 rfl ?_
          refine go_lv [0, 1, 2] (lv' := [(0, .ref (fh_ad E k1)), (1, .ref (fh_ad E k2)), (2, .int x7)]) rfl ?_
          exact hj24 σ26
theorem m_X1_readInto (E : fh_E) (l : Launch) (hok : fh_ok E) (k1 : Nat) (k2 : Nat) (σ3 : fh_S) : fh_Met E l yX1_readInto cX1_readInto 4 ((some FieldType.int)) rm_X1_readInto fh_vI [.ref (fh_ad E k1), .ref (fh_ad E k2)] σ3 (f_X1_readInto k1 k2 σ3) := fh_met hok (by decide +kernel) (Nat.le_of_ble_eq_true rfl) (fun M _ C Hr => g_X1_readInto C Hr k1 k2 σ3)
