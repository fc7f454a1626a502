section
-- ===== PART A: goes FIRST, ahead of the names: the tables' words, and 'selects' of the private methods out of them =====
/-- a private method of a class that the tables say can be made, by its rows of tables_1 -/
def lw_okq (q : MethodName × Nat) : Prop := (q.1.cls ≠ "java/lang/invoke/MethodHandle" ∧ q.1.cls ≠ "java/lang/invoke/VarHandle") ∧ Cond.instantiable q.1.cls q.2 ∈ tables_1 ∧ Cond.privateMethod q.1 ∈ tables_1 ∧ Cond.instanceMethod q.1 ∈ tables_1
theorem lw_p0 : lw_okq (⟨"FollowedHours", "tell", "(I)I"⟩, 8) := ⟨⟨by decide +kernel, by decide +kernel⟩, List.mem_of_getElem? (i := 15) (by decide +kernel), List.mem_of_getElem? (i := 177) (by decide +kernel), List.mem_of_getElem? (i := 178) (by decide +kernel)⟩
theorem lw_p1 : lw_okq (⟨"FollowedHours$Garden", "paceBehind", "(II)I"⟩, 12) := ⟨⟨by decide +kernel, by decide +kernel⟩, List.mem_of_getElem? (i := 23) (by decide +kernel), List.mem_of_getElem? (i := 205) (by decide +kernel), List.mem_of_getElem? (i := 206) (by decide +kernel)⟩
theorem lw_p2 : lw_okq (⟨"FollowedHours$Garden", "setWhere", "([II)I"⟩, 12) := ⟨⟨by decide +kernel, by decide +kernel⟩, List.mem_of_getElem? (i := 23) (by decide +kernel), List.mem_of_getElem? (i := 287) (by decide +kernel), List.mem_of_getElem? (i := 288) (by decide +kernel)⟩
theorem lw_p3 : lw_okq (⟨"FollowedHours", "tryTicks", "(I)V"⟩, 8) := ⟨⟨by decide +kernel, by decide +kernel⟩, List.mem_of_getElem? (i := 15) (by decide +kernel), List.mem_of_getElem? (i := 375) (by decide +kernel), List.mem_of_getElem? (i := 376) (by decide +kernel)⟩
theorem lw_p4 : lw_okq (⟨"FollowedHours", "distanceAs", "(III)I"⟩, 8) := ⟨⟨by decide +kernel, by decide +kernel⟩, List.mem_of_getElem? (i := 15) (by decide +kernel), List.mem_of_getElem? (i := 420) (by decide +kernel), List.mem_of_getElem? (i := 421) (by decide +kernel)⟩
theorem lw_p5 : lw_okq (⟨"FollowedHours", "findingOfSheet", "(I)I"⟩, 8) := ⟨⟨by decide +kernel, by decide +kernel⟩, List.mem_of_getElem? (i := 15) (by decide +kernel), List.mem_of_getElem? (i := 447) (by decide +kernel), List.mem_of_getElem? (i := 448) (by decide +kernel)⟩
theorem lw_p6 : lw_okq (⟨"FollowedHours", "triedShowsAs", "(LFollowedHours$Sheet;I)Z"⟩, 8) := ⟨⟨by decide +kernel, by decide +kernel⟩, List.mem_of_getElem? (i := 15) (by decide +kernel), List.mem_of_getElem? (i := 459) (by decide +kernel), List.mem_of_getElem? (i := 460) (by decide +kernel)⟩
theorem lw_p7 : lw_okq (⟨"FollowedHours", "stillIfStopped", "(II)I"⟩, 8) := ⟨⟨by decide +kernel, by decide +kernel⟩, List.mem_of_getElem? (i := 15) (by decide +kernel), List.mem_of_getElem? (i := 479) (by decide +kernel), List.mem_of_getElem? (i := 480) (by decide +kernel)⟩
theorem lw_p8 : lw_okq (⟨"FollowedHours$Reader", "findToken", "()V"⟩, 6) := ⟨⟨by decide +kernel, by decide +kernel⟩, List.mem_of_getElem? (i := 94) (by decide +kernel), List.mem_of_getElem? (i := 535) (by decide +kernel), List.mem_of_getElem? (i := 536) (by decide +kernel)⟩
theorem lw_p9 : lw_okq (⟨"FollowedHours$Reader", "readLetters", "()V"⟩, 6) := ⟨⟨by decide +kernel, by decide +kernel⟩, List.mem_of_getElem? (i := 94) (by decide +kernel), List.mem_of_getElem? (i := 546) (by decide +kernel), List.mem_of_getElem? (i := 547) (by decide +kernel)⟩
theorem lw_p10 : lw_okq (⟨"FollowedHours$Reader", "readDigits", "()V"⟩, 6) := ⟨⟨by decide +kernel, by decide +kernel⟩, List.mem_of_getElem? (i := 94) (by decide +kernel), List.mem_of_getElem? (i := 553) (by decide +kernel), List.mem_of_getElem? (i := 554) (by decide +kernel)⟩
theorem lw_p11 : lw_okq (⟨"FollowedHours$Reader", "takeWord", "(Ljava/lang/String;)Z"⟩, 6) := ⟨⟨by decide +kernel, by decide +kernel⟩, List.mem_of_getElem? (i := 94) (by decide +kernel), List.mem_of_getElem? (i := 559) (by decide +kernel), List.mem_of_getElem? (i := 560) (by decide +kernel)⟩
theorem lw_p12 : lw_okq (⟨"FollowedHours$Reader", "isWord", "(Ljava/lang/String;)Z"⟩, 6) := ⟨⟨by decide +kernel, by decide +kernel⟩, List.mem_of_getElem? (i := 94) (by decide +kernel), List.mem_of_getElem? (i := 563) (by decide +kernel), List.mem_of_getElem? (i := 564) (by decide +kernel)⟩
theorem lw_p13 : lw_okq (⟨"FollowedHours$Reader", "readMaster", "(LFollowedHours$Garden;)V"⟩, 6) := ⟨⟨by decide +kernel, by decide +kernel⟩, List.mem_of_getElem? (i := 94) (by decide +kernel), List.mem_of_getElem? (i := 615) (by decide +kernel), List.mem_of_getElem? (i := 616) (by decide +kernel)⟩
theorem lw_p14 : lw_okq (⟨"FollowedHours$Reader", "takeNumber", "(I)I"⟩, 6) := ⟨⟨by decide +kernel, by decide +kernel⟩, List.mem_of_getElem? (i := 94) (by decide +kernel), List.mem_of_getElem? (i := 619) (by decide +kernel), List.mem_of_getElem? (i := 620) (by decide +kernel)⟩
theorem lw_p15 : lw_okq (⟨"FollowedHours$Reader", "refuse", "()V"⟩, 6) := ⟨⟨by decide +kernel, by decide +kernel⟩, List.mem_of_getElem? (i := 94) (by decide +kernel), List.mem_of_getElem? (i := 623) (by decide +kernel), List.mem_of_getElem? (i := 624) (by decide +kernel)⟩
def lw_privs_1 : List (MethodName × Nat) := [(⟨"FollowedHours", "tell", "(I)I"⟩, 8), (⟨"FollowedHours$Garden", "paceBehind", "(II)I"⟩, 12), (⟨"FollowedHours$Garden", "setWhere", "([II)I"⟩, 12), (⟨"FollowedHours", "tryTicks", "(I)V"⟩, 8), (⟨"FollowedHours", "distanceAs", "(III)I"⟩, 8), (⟨"FollowedHours", "findingOfSheet", "(I)I"⟩, 8), (⟨"FollowedHours", "triedShowsAs", "(LFollowedHours$Sheet;I)Z"⟩, 8), (⟨"FollowedHours", "stillIfStopped", "(II)I"⟩, 8), (⟨"FollowedHours$Reader", "findToken", "()V"⟩, 6), (⟨"FollowedHours$Reader", "readLetters", "()V"⟩, 6), (⟨"FollowedHours$Reader", "readDigits", "()V"⟩, 6), (⟨"FollowedHours$Reader", "takeWord", "(Ljava/lang/String;)Z"⟩, 6), (⟨"FollowedHours$Reader", "isWord", "(Ljava/lang/String;)Z"⟩, 6), (⟨"FollowedHours$Reader", "readMaster", "(LFollowedHours$Garden;)V"⟩, 6), (⟨"FollowedHours$Reader", "takeNumber", "(I)I"⟩, 6), (⟨"FollowedHours$Reader", "refuse", "()V"⟩, 6)]
theorem lw_r1 : ∀ q ∈ lw_privs_1, lw_okq q := List.forall_mem_cons.mpr ⟨lw_p0, List.forall_mem_cons.mpr ⟨lw_p1, List.forall_mem_cons.mpr ⟨lw_p2, List.forall_mem_cons.mpr ⟨lw_p3, List.forall_mem_cons.mpr ⟨lw_p4, List.forall_mem_cons.mpr ⟨lw_p5, List.forall_mem_cons.mpr ⟨lw_p6, List.forall_mem_cons.mpr ⟨lw_p7, List.forall_mem_cons.mpr ⟨lw_p8, List.forall_mem_cons.mpr ⟨lw_p9, List.forall_mem_cons.mpr ⟨lw_p10, List.forall_mem_cons.mpr ⟨lw_p11, List.forall_mem_cons.mpr ⟨lw_p12, List.forall_mem_cons.mpr ⟨lw_p13, List.forall_mem_cons.mpr ⟨lw_p14, List.forall_mem_cons.mpr ⟨lw_p15, fun _ h => absurd h List.not_mem_nil⟩⟩⟩⟩⟩⟩⟩⟩⟩⟩⟩⟩⟩⟩⟩⟩
theorem lw_p16 : lw_okq (⟨"FollowedHours$Reader", "readDial", "(LFollowedHours$Garden;)V"⟩, 6) := ⟨⟨by decide +kernel, by decide +kernel⟩, List.mem_of_getElem? (i := 94) (by decide +kernel), List.mem_of_getElem? (i := 627) (by decide +kernel), List.mem_of_getElem? (i := 628) (by decide +kernel)⟩
theorem lw_p17 : lw_okq (⟨"FollowedHours$Reader", "kindOfWord", "()I"⟩, 6) := ⟨⟨by decide +kernel, by decide +kernel⟩, List.mem_of_getElem? (i := 94) (by decide +kernel), List.mem_of_getElem? (i := 631) (by decide +kernel), List.mem_of_getElem? (i := 632) (by decide +kernel)⟩
theorem lw_p18 : lw_okq (⟨"FollowedHours$Reader", "takeSign", "(C)Z"⟩, 6) := ⟨⟨by decide +kernel, by decide +kernel⟩, List.mem_of_getElem? (i := 94) (by decide +kernel), List.mem_of_getElem? (i := 651) (by decide +kernel), List.mem_of_getElem? (i := 652) (by decide +kernel)⟩
theorem lw_p19 : lw_okq (⟨"FollowedHoursModel", "finding", "(I)I"⟩, 21) := ⟨⟨by decide +kernel, by decide +kernel⟩, List.mem_of_getElem? (i := 732) (by decide +kernel), List.mem_of_getElem? (i := 822) (by decide +kernel), List.mem_of_getElem? (i := 823) (by decide +kernel)⟩
theorem lw_p20 : lw_okq (⟨"FollowedHoursModel", "comes", "(IIIIII)I"⟩, 21) := ⟨⟨by decide +kernel, by decide +kernel⟩, List.mem_of_getElem? (i := 732) (by decide +kernel), List.mem_of_getElem? (i := 827) (by decide +kernel), List.mem_of_getElem? (i := 828) (by decide +kernel)⟩
theorem lw_p21 : lw_okq (⟨"FollowedHoursModel", "isDial", "(I)Z"⟩, 21) := ⟨⟨by decide +kernel, by decide +kernel⟩, List.mem_of_getElem? (i := 732) (by decide +kernel), List.mem_of_getElem? (i := 838) (by decide +kernel), List.mem_of_getElem? (i := 839) (by decide +kernel)⟩
theorem lw_p22 : lw_okq (⟨"FollowedHoursModel", "pace", "(I)I"⟩, 21) := ⟨⟨by decide +kernel, by decide +kernel⟩, List.mem_of_getElem? (i := 732) (by decide +kernel), List.mem_of_getElem? (i := 842) (by decide +kernel), List.mem_of_getElem? (i := 843) (by decide +kernel)⟩
theorem lw_p23 : lw_okq (⟨"FollowedHoursModel", "plainPace", "(I)I"⟩, 21) := ⟨⟨by decide +kernel, by decide +kernel⟩, List.mem_of_getElem? (i := 732) (by decide +kernel), List.mem_of_getElem? (i := 846) (by decide +kernel), List.mem_of_getElem? (i := 847) (by decide +kernel)⟩
theorem lw_p24 : lw_okq (⟨"FollowedHoursModel", "dialIs", "(II)I"⟩, 21) := ⟨⟨by decide +kernel, by decide +kernel⟩, List.mem_of_getElem? (i := 732) (by decide +kernel), List.mem_of_getElem? (i := 850) (by decide +kernel), List.mem_of_getElem? (i := 851) (by decide +kernel)⟩
theorem lw_p25 : lw_okq (⟨"FollowedHoursModel", "isStopped", "(I)Z"⟩, 21) := ⟨⟨by decide +kernel, by decide +kernel⟩, List.mem_of_getElem? (i := 732) (by decide +kernel), List.mem_of_getElem? (i := 857) (by decide +kernel), List.mem_of_getElem? (i := 858) (by decide +kernel)⟩
theorem lw_p26 : lw_okq (⟨"FollowedHoursModel", "mayBe", "(II)Z"⟩, 21) := ⟨⟨by decide +kernel, by decide +kernel⟩, List.mem_of_getElem? (i := 732) (by decide +kernel), List.mem_of_getElem? (i := 867) (by decide +kernel), List.mem_of_getElem? (i := 868) (by decide +kernel)⟩
theorem lw_p27 : lw_okq (⟨"FollowedHoursModel", "become", "(II)I"⟩, 21) := ⟨⟨by decide +kernel, by decide +kernel⟩, List.mem_of_getElem? (i := 732) (by decide +kernel), List.mem_of_getElem? (i := 874) (by decide +kernel), List.mem_of_getElem? (i := 875) (by decide +kernel)⟩
theorem lw_p28 : lw_okq (⟨"FollowedHoursModel", "stops", "(II)Z"⟩, 21) := ⟨⟨by decide +kernel, by decide +kernel⟩, List.mem_of_getElem? (i := 732) (by decide +kernel), List.mem_of_getElem? (i := 889) (by decide +kernel), List.mem_of_getElem? (i := 890) (by decide +kernel)⟩
theorem lw_p29 : lw_okq (⟨"FollowedHoursModel", "ticks", "(I)V"⟩, 21) := ⟨⟨by decide +kernel, by decide +kernel⟩, List.mem_of_getElem? (i := 732) (by decide +kernel), List.mem_of_getElem? (i := 899) (by decide +kernel), List.mem_of_getElem? (i := 900) (by decide +kernel)⟩
theorem lw_p30 : lw_okq (⟨"FollowedHoursModel", "tick", "()V"⟩, 21) := ⟨⟨by decide +kernel, by decide +kernel⟩, List.mem_of_getElem? (i := 732) (by decide +kernel), List.mem_of_getElem? (i := 903) (by decide +kernel), List.mem_of_getElem? (i := 904) (by decide +kernel)⟩
theorem lw_p31 : lw_okq (⟨"FollowedHoursModel", "stoppedNow", "()I"⟩, 21) := ⟨⟨by decide +kernel, by decide +kernel⟩, List.mem_of_getElem? (i := 732) (by decide +kernel), List.mem_of_getElem? (i := 911) (by decide +kernel), List.mem_of_getElem? (i := 912) (by decide +kernel)⟩
def lw_privs_2 : List (MethodName × Nat) := [(⟨"FollowedHours$Reader", "readDial", "(LFollowedHours$Garden;)V"⟩, 6), (⟨"FollowedHours$Reader", "kindOfWord", "()I"⟩, 6), (⟨"FollowedHours$Reader", "takeSign", "(C)Z"⟩, 6), (⟨"FollowedHoursModel", "finding", "(I)I"⟩, 21), (⟨"FollowedHoursModel", "comes", "(IIIIII)I"⟩, 21), (⟨"FollowedHoursModel", "isDial", "(I)Z"⟩, 21), (⟨"FollowedHoursModel", "pace", "(I)I"⟩, 21), (⟨"FollowedHoursModel", "plainPace", "(I)I"⟩, 21), (⟨"FollowedHoursModel", "dialIs", "(II)I"⟩, 21), (⟨"FollowedHoursModel", "isStopped", "(I)Z"⟩, 21), (⟨"FollowedHoursModel", "mayBe", "(II)Z"⟩, 21), (⟨"FollowedHoursModel", "become", "(II)I"⟩, 21), (⟨"FollowedHoursModel", "stops", "(II)Z"⟩, 21), (⟨"FollowedHoursModel", "ticks", "(I)V"⟩, 21), (⟨"FollowedHoursModel", "tick", "()V"⟩, 21), (⟨"FollowedHoursModel", "stoppedNow", "()I"⟩, 21)]
theorem lw_r2 : ∀ q ∈ lw_privs_2, lw_okq q := List.forall_mem_cons.mpr ⟨lw_p16, List.forall_mem_cons.mpr ⟨lw_p17, List.forall_mem_cons.mpr ⟨lw_p18, List.forall_mem_cons.mpr ⟨lw_p19, List.forall_mem_cons.mpr ⟨lw_p20, List.forall_mem_cons.mpr ⟨lw_p21, List.forall_mem_cons.mpr ⟨lw_p22, List.forall_mem_cons.mpr ⟨lw_p23, List.forall_mem_cons.mpr ⟨lw_p24, List.forall_mem_cons.mpr ⟨lw_p25, List.forall_mem_cons.mpr ⟨lw_p26, List.forall_mem_cons.mpr ⟨lw_p27, List.forall_mem_cons.mpr ⟨lw_p28, List.forall_mem_cons.mpr ⟨lw_p29, List.forall_mem_cons.mpr ⟨lw_p30, List.forall_mem_cons.mpr ⟨lw_p31, fun _ h => absurd h List.not_mem_nil⟩⟩⟩⟩⟩⟩⟩⟩⟩⟩⟩⟩⟩⟩⟩⟩
theorem lw_p32 : lw_okq (⟨"FollowedHoursModel", "stillNow", "()I"⟩, 21) := ⟨⟨by decide +kernel, by decide +kernel⟩, List.mem_of_getElem? (i := 732) (by decide +kernel), List.mem_of_getElem? (i := 915) (by decide +kernel), List.mem_of_getElem? (i := 916) (by decide +kernel)⟩
theorem lw_p33 : lw_okq (⟨"FollowedHoursModel", "ownNow", "()I"⟩, 21) := ⟨⟨by decide +kernel, by decide +kernel⟩, List.mem_of_getElem? (i := 732) (by decide +kernel), List.mem_of_getElem? (i := 919) (by decide +kernel), List.mem_of_getElem? (i := 920) (by decide +kernel)⟩
theorem lw_p34 : lw_okq (⟨"FollowedHoursModel", "sumOf", "(I)I"⟩, 21) := ⟨⟨by decide +kernel, by decide +kernel⟩, List.mem_of_getElem? (i := 732) (by decide +kernel), List.mem_of_getElem? (i := 923) (by decide +kernel), List.mem_of_getElem? (i := 924) (by decide +kernel)⟩
theorem lw_p35 : lw_okq (⟨"FollowedHoursModel", "manyShow", "(I)I"⟩, 21) := ⟨⟨by decide +kernel, by decide +kernel⟩, List.mem_of_getElem? (i := 732) (by decide +kernel), List.mem_of_getElem? (i := 927) (by decide +kernel), List.mem_of_getElem? (i := 928) (by decide +kernel)⟩
theorem lw_p36 : lw_okq (⟨"FollowedHoursModel", "whoShow", "(I)I"⟩, 21) := ⟨⟨by decide +kernel, by decide +kernel⟩, List.mem_of_getElem? (i := 732) (by decide +kernel), List.mem_of_getElem? (i := 931) (by decide +kernel), List.mem_of_getElem? (i := 932) (by decide +kernel)⟩
theorem lw_p37 : lw_okq (⟨"FollowedHoursModel", "wayOf", "(I)I"⟩, 21) := ⟨⟨by decide +kernel, by decide +kernel⟩, List.mem_of_getElem? (i := 732) (by decide +kernel), List.mem_of_getElem? (i := 942) (by decide +kernel), List.mem_of_getElem? (i := 943) (by decide +kernel)⟩
theorem lw_p38 : lw_okq (⟨"FollowedHoursModel", "ringOf", "(I)I"⟩, 21) := ⟨⟨by decide +kernel, by decide +kernel⟩, List.mem_of_getElem? (i := 732) (by decide +kernel), List.mem_of_getElem? (i := 953) (by decide +kernel), List.mem_of_getElem? (i := 954) (by decide +kernel)⟩
theorem lw_p39 : lw_okq (⟨"FollowedHoursModel", "manyRings", "()I"⟩, 21) := ⟨⟨by decide +kernel, by decide +kernel⟩, List.mem_of_getElem? (i := 732) (by decide +kernel), List.mem_of_getElem? (i := 961) (by decide +kernel), List.mem_of_getElem? (i := 962) (by decide +kernel)⟩
theorem lw_p40 : lw_okq (⟨"FollowedHoursModel", "underOf", "(I)I"⟩, 21) := ⟨⟨by decide +kernel, by decide +kernel⟩, List.mem_of_getElem? (i := 732) (by decide +kernel), List.mem_of_getElem? (i := 973) (by decide +kernel), List.mem_of_getElem? (i := 974) (by decide +kernel)⟩
theorem lw_p41 : lw_okq (⟨"FollowedHoursModel", "orNone", "(I)I"⟩, 21) := ⟨⟨by decide +kernel, by decide +kernel⟩, List.mem_of_getElem? (i := 732) (by decide +kernel), List.mem_of_getElem? (i := 981) (by decide +kernel), List.mem_of_getElem? (i := 982) (by decide +kernel)⟩
theorem lw_p42 : lw_okq (⟨"FollowedHoursModel", "behind", "(III)I"⟩, 21) := ⟨⟨by decide +kernel, by decide +kernel⟩, List.mem_of_getElem? (i := 732) (by decide +kernel), List.mem_of_getElem? (i := 990) (by decide +kernel), List.mem_of_getElem? (i := 991) (by decide +kernel)⟩
theorem lw_p43 : lw_okq (⟨"FollowedHoursModel", "putBack", "(I)I"⟩, 21) := ⟨⟨by decide +kernel, by decide +kernel⟩, List.mem_of_getElem? (i := 732) (by decide +kernel), List.mem_of_getElem? (i := 997) (by decide +kernel), List.mem_of_getElem? (i := 998) (by decide +kernel)⟩
theorem lw_p44 : lw_okq (⟨"FollowedHoursModel", "isSettled", "()Z"⟩, 21) := ⟨⟨by decide +kernel, by decide +kernel⟩, List.mem_of_getElem? (i := 732) (by decide +kernel), List.mem_of_getElem? (i := 1021) (by decide +kernel), List.mem_of_getElem? (i := 1022) (by decide +kernel)⟩
theorem lw_p45 : lw_okq (⟨"FollowedHoursModel", "farIn", "(II)I"⟩, 21) := ⟨⟨by decide +kernel, by decide +kernel⟩, List.mem_of_getElem? (i := 732) (by decide +kernel), List.mem_of_getElem? (i := 1029) (by decide +kernel), List.mem_of_getElem? (i := 1030) (by decide +kernel)⟩
theorem lw_p46 : lw_okq (⟨"FollowedHoursModel", "mostShown", "()I"⟩, 21) := ⟨⟨by decide +kernel, by decide +kernel⟩, List.mem_of_getElem? (i := 732) (by decide +kernel), List.mem_of_getElem? (i := 1042) (by decide +kernel), List.mem_of_getElem? (i := 1043) (by decide +kernel)⟩
theorem lw_p47 : lw_okq (⟨"FollowedHoursModel", "rightBehind", "(I)I"⟩, 21) := ⟨⟨by decide +kernel, by decide +kernel⟩, List.mem_of_getElem? (i := 732) (by decide +kernel), List.mem_of_getElem? (i := 1050) (by decide +kernel), List.mem_of_getElem? (i := 1051) (by decide +kernel)⟩
def lw_privs_3 : List (MethodName × Nat) := [(⟨"FollowedHoursModel", "stillNow", "()I"⟩, 21), (⟨"FollowedHoursModel", "ownNow", "()I"⟩, 21), (⟨"FollowedHoursModel", "sumOf", "(I)I"⟩, 21), (⟨"FollowedHoursModel", "manyShow", "(I)I"⟩, 21), (⟨"FollowedHoursModel", "whoShow", "(I)I"⟩, 21), (⟨"FollowedHoursModel", "wayOf", "(I)I"⟩, 21), (⟨"FollowedHoursModel", "ringOf", "(I)I"⟩, 21), (⟨"FollowedHoursModel", "manyRings", "()I"⟩, 21), (⟨"FollowedHoursModel", "underOf", "(I)I"⟩, 21), (⟨"FollowedHoursModel", "orNone", "(I)I"⟩, 21), (⟨"FollowedHoursModel", "behind", "(III)I"⟩, 21), (⟨"FollowedHoursModel", "putBack", "(I)I"⟩, 21), (⟨"FollowedHoursModel", "isSettled", "()Z"⟩, 21), (⟨"FollowedHoursModel", "farIn", "(II)I"⟩, 21), (⟨"FollowedHoursModel", "mostShown", "()I"⟩, 21), (⟨"FollowedHoursModel", "rightBehind", "(I)I"⟩, 21)]
theorem lw_r3 : ∀ q ∈ lw_privs_3, lw_okq q := List.forall_mem_cons.mpr ⟨lw_p32, List.forall_mem_cons.mpr ⟨lw_p33, List.forall_mem_cons.mpr ⟨lw_p34, List.forall_mem_cons.mpr ⟨lw_p35, List.forall_mem_cons.mpr ⟨lw_p36, List.forall_mem_cons.mpr ⟨lw_p37, List.forall_mem_cons.mpr ⟨lw_p38, List.forall_mem_cons.mpr ⟨lw_p39, List.forall_mem_cons.mpr ⟨lw_p40, List.forall_mem_cons.mpr ⟨lw_p41, List.forall_mem_cons.mpr ⟨lw_p42, List.forall_mem_cons.mpr ⟨lw_p43, List.forall_mem_cons.mpr ⟨lw_p44, List.forall_mem_cons.mpr ⟨lw_p45, List.forall_mem_cons.mpr ⟨lw_p46, List.forall_mem_cons.mpr ⟨lw_p47, fun _ h => absurd h List.not_mem_nil⟩⟩⟩⟩⟩⟩⟩⟩⟩⟩⟩⟩⟩⟩⟩⟩
theorem lw_p48 : lw_okq (⟨"FollowedHoursModel", "lacks", "(I)I"⟩, 21) := ⟨⟨by decide +kernel, by decide +kernel⟩, List.mem_of_getElem? (i := 732) (by decide +kernel), List.mem_of_getElem? (i := 1062) (by decide +kernel), List.mem_of_getElem? (i := 1063) (by decide +kernel)⟩
theorem lw_p49 : lw_okq (⟨"FollowedHoursModel", "fitting", "(IIII)I"⟩, 21) := ⟨⟨by decide +kernel, by decide +kernel⟩, List.mem_of_getElem? (i := 732) (by decide +kernel), List.mem_of_getElem? (i := 1070) (by decide +kernel), List.mem_of_getElem? (i := 1071) (by decide +kernel)⟩
theorem lw_p50 : lw_okq (⟨"FollowedHoursModel", "isShownSo", "(II)Z"⟩, 21) := ⟨⟨by decide +kernel, by decide +kernel⟩, List.mem_of_getElem? (i := 732) (by decide +kernel), List.mem_of_getElem? (i := 1074) (by decide +kernel), List.mem_of_getElem? (i := 1075) (by decide +kernel)⟩
theorem lw_p51 : lw_okq (⟨"FollowedHoursModel", "stillWith", "(II)I"⟩, 21) := ⟨⟨by decide +kernel, by decide +kernel⟩, List.mem_of_getElem? (i := 732) (by decide +kernel), List.mem_of_getElem? (i := 1090) (by decide +kernel), List.mem_of_getElem? (i := 1091) (by decide +kernel)⟩
theorem lw_p52 : lw_okq (⟨"FollowedHoursModel", "drawn", "()I"⟩, 21) := ⟨⟨by decide +kernel, by decide +kernel⟩, List.mem_of_getElem? (i := 732) (by decide +kernel), List.mem_of_getElem? (i := 1106) (by decide +kernel), List.mem_of_getElem? (i := 1107) (by decide +kernel)⟩
theorem lw_p53 : lw_okq (⟨"FollowedHoursModel", "next", "()V"⟩, 21) := ⟨⟨by decide +kernel, by decide +kernel⟩, List.mem_of_getElem? (i := 732) (by decide +kernel), List.mem_of_getElem? (i := 1131) (by decide +kernel), List.mem_of_getElem? (i := 1132) (by decide +kernel)⟩
theorem lw_p54 : lw_okq (⟨"FollowedHoursModel", "byteAt", "(I)I"⟩, 21) := ⟨⟨by decide +kernel, by decide +kernel⟩, List.mem_of_getElem? (i := 732) (by decide +kernel), List.mem_of_getElem? (i := 1135) (by decide +kernel), List.mem_of_getElem? (i := 1136) (by decide +kernel)⟩
theorem lw_p55 : lw_okq (⟨"FollowedHoursModel", "readItem", "()V"⟩, 21) := ⟨⟨by decide +kernel, by decide +kernel⟩, List.mem_of_getElem? (i := 732) (by decide +kernel), List.mem_of_getElem? (i := 1139) (by decide +kernel), List.mem_of_getElem? (i := 1140) (by decide +kernel)⟩
theorem lw_p56 : lw_okq (⟨"FollowedHoursModel", "kindTold", "()I"⟩, 21) := ⟨⟨by decide +kernel, by decide +kernel⟩, List.mem_of_getElem? (i := 732) (by decide +kernel), List.mem_of_getElem? (i := 1143) (by decide +kernel), List.mem_of_getElem? (i := 1144) (by decide +kernel)⟩
theorem lw_p57 : lw_okq (⟨"FollowedHoursModel", "isWord", "(Ljava/lang/String;)Z"⟩, 21) := ⟨⟨by decide +kernel, by decide +kernel⟩, List.mem_of_getElem? (i := 732) (by decide +kernel), List.mem_of_getElem? (i := 1147) (by decide +kernel), List.mem_of_getElem? (i := 1148) (by decide +kernel)⟩
theorem lw_p58 : lw_okq (⟨"FollowedHoursModel", "must", "(Z)V"⟩, 21) := ⟨⟨by decide +kernel, by decide +kernel⟩, List.mem_of_getElem? (i := 732) (by decide +kernel), List.mem_of_getElem? (i := 1153) (by decide +kernel), List.mem_of_getElem? (i := 1154) (by decide +kernel)⟩
theorem lw_p59 : lw_okq (⟨"FollowedHoursModel", "isNext", "(Ljava/lang/String;)Z"⟩, 21) := ⟨⟨by decide +kernel, by decide +kernel⟩, List.mem_of_getElem? (i := 732) (by decide +kernel), List.mem_of_getElem? (i := 1158) (by decide +kernel), List.mem_of_getElem? (i := 1159) (by decide +kernel)⟩
theorem lw_p60 : lw_okq (⟨"FollowedHoursModel", "number", "(II)I"⟩, 21) := ⟨⟨by decide +kernel, by decide +kernel⟩, List.mem_of_getElem? (i := 732) (by decide +kernel), List.mem_of_getElem? (i := 1162) (by decide +kernel), List.mem_of_getElem? (i := 1163) (by decide +kernel)⟩
theorem lw_p61 : lw_okq (⟨"FollowedHoursModel", "goesTold", "()I"⟩, 21) := ⟨⟨by decide +kernel, by decide +kernel⟩, List.mem_of_getElem? (i := 732) (by decide +kernel), List.mem_of_getElem? (i := 1168) (by decide +kernel), List.mem_of_getElem? (i := 1169) (by decide +kernel)⟩
theorem lw_p62 : lw_okq (⟨"FollowedHoursModel", "item", "(IIIIII)V"⟩, 21) := ⟨⟨by decide +kernel, by decide +kernel⟩, List.mem_of_getElem? (i := 732) (by decide +kernel), List.mem_of_getElem? (i := 1174) (by decide +kernel), List.mem_of_getElem? (i := 1175) (by decide +kernel)⟩
theorem lw_p63 : lw_okq (⟨"FollowedHoursModel", "isToldSo", "(I)I"⟩, 21) := ⟨⟨by decide +kernel, by decide +kernel⟩, List.mem_of_getElem? (i := 732) (by decide +kernel), List.mem_of_getElem? (i := 1179) (by decide +kernel), List.mem_of_getElem? (i := 1180) (by decide +kernel)⟩
def lw_privs_4 : List (MethodName × Nat) := [(⟨"FollowedHoursModel", "lacks", "(I)I"⟩, 21), (⟨"FollowedHoursModel", "fitting", "(IIII)I"⟩, 21), (⟨"FollowedHoursModel", "isShownSo", "(II)Z"⟩, 21), (⟨"FollowedHoursModel", "stillWith", "(II)I"⟩, 21), (⟨"FollowedHoursModel", "drawn", "()I"⟩, 21), (⟨"FollowedHoursModel", "next", "()V"⟩, 21), (⟨"FollowedHoursModel", "byteAt", "(I)I"⟩, 21), (⟨"FollowedHoursModel", "readItem", "()V"⟩, 21), (⟨"FollowedHoursModel", "kindTold", "()I"⟩, 21), (⟨"FollowedHoursModel", "isWord", "(Ljava/lang/String;)Z"⟩, 21), (⟨"FollowedHoursModel", "must", "(Z)V"⟩, 21), (⟨"FollowedHoursModel", "isNext", "(Ljava/lang/String;)Z"⟩, 21), (⟨"FollowedHoursModel", "number", "(II)I"⟩, 21), (⟨"FollowedHoursModel", "goesTold", "()I"⟩, 21), (⟨"FollowedHoursModel", "item", "(IIIIII)V"⟩, 21), (⟨"FollowedHoursModel", "isToldSo", "(I)I"⟩, 21)]
theorem lw_r4 : ∀ q ∈ lw_privs_4, lw_okq q := List.forall_mem_cons.mpr ⟨lw_p48, List.forall_mem_cons.mpr ⟨lw_p49, List.forall_mem_cons.mpr ⟨lw_p50, List.forall_mem_cons.mpr ⟨lw_p51, List.forall_mem_cons.mpr ⟨lw_p52, List.forall_mem_cons.mpr ⟨lw_p53, List.forall_mem_cons.mpr ⟨lw_p54, List.forall_mem_cons.mpr ⟨lw_p55, List.forall_mem_cons.mpr ⟨lw_p56, List.forall_mem_cons.mpr ⟨lw_p57, List.forall_mem_cons.mpr ⟨lw_p58, List.forall_mem_cons.mpr ⟨lw_p59, List.forall_mem_cons.mpr ⟨lw_p60, List.forall_mem_cons.mpr ⟨lw_p61, List.forall_mem_cons.mpr ⟨lw_p62, List.forall_mem_cons.mpr ⟨lw_p63, fun _ h => absurd h List.not_mem_nil⟩⟩⟩⟩⟩⟩⟩⟩⟩⟩⟩⟩⟩⟩⟩⟩
def lw_privs : List (MethodName × Nat) := lw_privs_1 ++ (lw_privs_2 ++ (lw_privs_3 ++ (lw_privs_4)))
def lw_tbl : List Cond := k2_sels lw_privs ++ tables_1
theorem lw_privs_ok : ∀ q ∈ lw_privs, lw_okq q := by
  show ∀ q ∈ lw_privs_1 ++ (lw_privs_2 ++ (lw_privs_3 ++ (lw_privs_4))), lw_okq q
  exact List.forall_mem_append.mpr ⟨lw_r1, List.forall_mem_append.mpr ⟨lw_r2, List.forall_mem_append.mpr ⟨lw_r3, lw_r4⟩⟩⟩

/-- the words that every contract has: those of the tables that stay good over a call -/
def fh_T : List Cond := lw_tbl.filter goodWord
theorem fh_Tin {w : Cond} (i : Nat) (h : tables_1[i]? = some w) (hg : goodWord w = true) : w ∈ fh_T := List.mem_filter.mpr ⟨List.mem_append_right _ (List.mem_of_getElem? h), hg⟩
theorem fh_Tsel {w : Cond} (i : Nat) (h : (k2_sels lw_privs)[i]? = some w) (hg : goodWord w = true) : w ∈ fh_T := List.mem_filter.mpr ⟨List.mem_append_left _ (List.mem_of_getElem? h), hg⟩
def fh_w (y : MethodName) (cc : ByteArray) (n : Nat) (ret : Option FieldType) : List Cond := .code y cc n ret :: fh_T
theorem fh_good {w : Cond} (h : w ∈ fh_T) : (w.onTables && w.keeps) = true ∨ ∃ ty, w = .arrayClass ty := good_of_word (List.mem_filter.mp h).2
end
section
def RX0 : String := "FollowedHours$Garden"
def TX0 : u_T := fun k => match k with
  | 0 => ("FollowedHours$Garden", "kindOf", "[I", true)
  | 1 => ("FollowedHours$Garden", "hourOf", "[I", true)
  | 2 => ("FollowedHours$Garden", "masterOf", "[I", true)
  | 3 => ("FollowedHours$Garden", "goingOf", "[I", true)
  | 4 => ("FollowedHours$Garden", "stopOf", "[I", true)
  | 5 => ("FollowedHours$Garden", "mossOf", "[I", true)
  | 6 => ("FollowedHours$Garden", "spots", "[I", true)
  | 7 => ("FollowedHours$Garden", "nextGoing", "[I", true)
  | 8 => ("FollowedHours$Garden", "markedGoing", "[I", true)
  | 9 => ("FollowedHours$Garden", "size", "I", false)
  | 10 => ("FollowedHours$Garden", "tick", "I", false)
  | _ => ("FollowedHours$Garden", "drawn", "I", false)
def tyX0 : Nat → FieldType := fun k => match k with
  | 0 => .array .int
  | 1 => .array .int
  | 2 => .array .int
  | 3 => .array .int
  | 4 => .array .int
  | 5 => .array .int
  | 6 => .array .int
  | 7 => .array .int
  | 8 => .array .int
  | 9 => .int
  | 10 => .int
  | _ => .int
theorem nmX0 : ∀ a, a < 12 → ∀ b, b < 12 → a ≠ b → (TX0 a).2.1 ≠ (TX0 b).2.1 := by decide +kernel
theorem tyX0_ok : ∀ k, k < 12 → parseFieldDescriptor (TX0 k).2.2.1 = some (tyX0 k) := by decide +kernel
abbrev cX0_init : ByteArray := prog_2_method_1_code
def yX0_init : MethodName := ⟨RX0, "<init>", "()V"⟩
abbrev cX0_become : ByteArray := prog_2_method_2_code
def yX0_become : MethodName := ⟨RX0, "become", "(LFollowedHours$Garden;)V"⟩
abbrev cX0_has : ByteArray := prog_2_method_3_code
def yX0_has : MethodName := ⟨RX0, "has", "(I)Z"⟩
abbrev cX0_isFull : ByteArray := prog_2_method_4_code
def yX0_isFull : MethodName := ⟨RX0, "isFull", "()Z"⟩
abbrev cX0_add : ByteArray := prog_2_method_5_code
def yX0_add : MethodName := ⟨RX0, "add", "(I)I"⟩
abbrev cX0_rowOf : ByteArray := prog_2_method_6_code
def yX0_rowOf : MethodName := ⟨RX0, "rowOf", "(I)[I"⟩
abbrev cX0_mayBecome : ByteArray := prog_2_method_7_code
def yX0_mayBecome : MethodName := ⟨RX0, "mayBecome", "(II)Z"⟩
abbrev cX0_turn : ByteArray := prog_2_method_8_code
def yX0_turn : MethodName := ⟨RX0, "turn", "(II)V"⟩
abbrev cX0_freeze : ByteArray := prog_2_method_9_code
def yX0_freeze : MethodName := ⟨RX0, "freeze", "(I)Z"⟩
abbrev cX0_thaw : ByteArray := prog_2_method_10_code
def yX0_thaw : MethodName := ⟨RX0, "thaw", "(I)Z"⟩
abbrev cX0_draw : ByteArray := prog_2_method_11_code
def yX0_draw : MethodName := ⟨RX0, "draw", "()I"⟩
abbrev cX0_paceOf : ByteArray := prog_2_method_12_code
def yX0_paceOf : MethodName := ⟨RX0, "paceOf", "(I)I"⟩
abbrev cX0_paceBehind : ByteArray := prog_2_method_13_code
def yX0_paceBehind : MethodName := ⟨RX0, "paceBehind", "(II)I"⟩
abbrev cX0_lateOf : ByteArray := prog_2_method_14_code
def yX0_lateOf : MethodName := ⟨RX0, "lateOf", "(I)I"⟩
abbrev cX0_passTick : ByteArray := prog_2_method_15_code
def yX0_passTick : MethodName := ⟨RX0, "passTick", "()V"⟩
abbrev cX0_passTicks : ByteArray := prog_2_method_16_code
def yX0_passTicks : MethodName := ⟨RX0, "passTicks", "(I)V"⟩
abbrev cX0_passTicksForGoings : ByteArray := prog_2_method_17_code
def yX0_passTicksForGoings : MethodName := ⟨RX0, "passTicksForGoings", "(I)V"⟩
abbrev cX0_markGoings : ByteArray := prog_2_method_18_code
def yX0_markGoings : MethodName := ⟨RX0, "markGoings", "()V"⟩
abbrev cX0_goesAsMarked : ByteArray := prog_2_method_19_code
def yX0_goesAsMarked : MethodName := ⟨RX0, "goesAsMarked", "()Z"⟩
abbrev cX0_stoppedSet : ByteArray := prog_2_method_20_code
def yX0_stoppedSet : MethodName := ⟨RX0, "stoppedSet", "()I"⟩
abbrev cX0_stillSet : ByteArray := prog_2_method_21_code
def yX0_stillSet : MethodName := ⟨RX0, "stillSet", "()I"⟩
abbrev cX0_setWhere : ByteArray := prog_2_method_22_code
def yX0_setWhere : MethodName := ⟨RX0, "setWhere", "([II)I"⟩
abbrev cX0_ownMasterSet : ByteArray := prog_2_method_23_code
def yX0_ownMasterSet : MethodName := ⟨RX0, "ownMasterSet", "()I"⟩
abbrev cX0_sumOf : ByteArray := prog_2_method_24_code
def yX0_sumOf : MethodName := ⟨RX0, "sumOf", "([I)I"⟩
abbrev cX0_heldCount : ByteArray := prog_2_method_25_code
def yX0_heldCount : MethodName := ⟨RX0, "heldCount", "()I"⟩
abbrev cX0_alikeSet : ByteArray := prog_2_method_26_code
def yX0_alikeSet : MethodName := ⟨RX0, "alikeSet", "()I"⟩
abbrev cX0_waySet : ByteArray := prog_2_method_27_code
def yX0_waySet : MethodName := ⟨RX0, "waySet", "(I)I"⟩
abbrev cX0_ringSet : ByteArray := prog_2_method_28_code
def yX0_ringSet : MethodName := ⟨RX0, "ringSet", "(I)I"⟩
abbrev cX0_ringCount : ByteArray := prog_2_method_29_code
def yX0_ringCount : MethodName := ⟨RX0, "ringCount", "()I"⟩
abbrev cX0_stepsToRing : ByteArray := prog_2_method_30_code
def yX0_stepsToRing : MethodName := ⟨RX0, "stepsToRing", "(I)I"⟩
abbrev cX0_underSet : ByteArray := prog_2_method_31_code
def yX0_underSet : MethodName := ⟨RX0, "underSet", "(I)I"⟩
def RX1 : String := "FollowedHours$Reader"
def TX1 : u_T := fun k => match k with
  | 0 => ("FollowedHours$Reader", "tape", "LFollowedHours$Tape;", true)
  | 1 => ("FollowedHours$Reader", "sort", "I", false)
  | 2 => ("FollowedHours$Reader", "begin", "I", false)
  | 3 => ("FollowedHours$Reader", "end", "I", false)
  | 4 => ("FollowedHours$Reader", "value", "I", false)
  | _ => ("FollowedHours$Reader", "fault", "I", false)
def tyX1 : Nat → FieldType := fun k => match k with
  | 0 => .object "FollowedHours$Tape"
  | 1 => .int
  | 2 => .int
  | 3 => .int
  | 4 => .int
  | _ => .int
theorem nmX1 : ∀ a, a < 6 → ∀ b, b < 6 → a ≠ b → (TX1 a).2.1 ≠ (TX1 b).2.1 := by decide +kernel
theorem tyX1_ok : ∀ k, k < 6 → parseFieldDescriptor (TX1 k).2.2.1 = some (tyX1 k) := by decide +kernel
abbrev cX1_init : ByteArray := prog_3_method_1_code
def yX1_init : MethodName := ⟨RX1, "<init>", "(LFollowedHours$Tape;)V"⟩
abbrev cX1_readInto : ByteArray := prog_3_method_2_code
def yX1_readInto : MethodName := ⟨RX1, "readInto", "(LFollowedHours$Garden;)I"⟩
abbrev cX1_readMaster : ByteArray := prog_3_method_3_code
def yX1_readMaster : MethodName := ⟨RX1, "readMaster", "(LFollowedHours$Garden;)V"⟩
abbrev cX1_readDial : ByteArray := prog_3_method_4_code
def yX1_readDial : MethodName := ⟨RX1, "readDial", "(LFollowedHours$Garden;)V"⟩
abbrev cX1_refuse : ByteArray := prog_3_method_5_code
def yX1_refuse : MethodName := ⟨RX1, "refuse", "()V"⟩
abbrev cX1_takeWord : ByteArray := prog_3_method_6_code
def yX1_takeWord : MethodName := ⟨RX1, "takeWord", "(Ljava/lang/String;)Z"⟩
abbrev cX1_takeSign : ByteArray := prog_3_method_7_code
def yX1_takeSign : MethodName := ⟨RX1, "takeSign", "(C)Z"⟩
abbrev cX1_takeNumber : ByteArray := prog_3_method_8_code
def yX1_takeNumber : MethodName := ⟨RX1, "takeNumber", "(I)I"⟩
abbrev cX1_isWord : ByteArray := prog_3_method_9_code
def yX1_isWord : MethodName := ⟨RX1, "isWord", "(Ljava/lang/String;)Z"⟩
abbrev cX1_kindOfWord : ByteArray := prog_3_method_10_code
def yX1_kindOfWord : MethodName := ⟨RX1, "kindOfWord", "()I"⟩
abbrev cX1_wordOfKind : ByteArray := prog_3_method_11_code
def yX1_wordOfKind : MethodName := ⟨RX1, "wordOfKind", "(I)Ljava/lang/String;"⟩
abbrev cX1_findToken : ByteArray := prog_3_method_12_code
def yX1_findToken : MethodName := ⟨RX1, "findToken", "()V"⟩
abbrev cX1_readLetters : ByteArray := prog_3_method_13_code
def yX1_readLetters : MethodName := ⟨RX1, "readLetters", "()V"⟩
abbrev cX1_readDigits : ByteArray := prog_3_method_14_code
def yX1_readDigits : MethodName := ⟨RX1, "readDigits", "()V"⟩
abbrev cX1_isLetter : ByteArray := prog_3_method_15_code
def yX1_isLetter : MethodName := ⟨RX1, "isLetter", "(I)Z"⟩
abbrev cX1_isDigit : ByteArray := prog_3_method_16_code
def yX1_isDigit : MethodName := ⟨RX1, "isDigit", "(I)Z"⟩
def RX2 : String := "FollowedHours$Sheet"
def TX2 : u_T := fun k => match k with
  | 0 => ("FollowedHours$Sheet", "numbers", "[I", true)
  | 1 => ("FollowedHours$Sheet", "bits", "I", false)
  | _ => ("FollowedHours$Sheet", "size", "I", false)
def tyX2 : Nat → FieldType := fun k => match k with
  | 0 => .array .int
  | 1 => .int
  | _ => .int
theorem nmX2 : ∀ a, a < 3 → ∀ b, b < 3 → a ≠ b → (TX2 a).2.1 ≠ (TX2 b).2.1 := by decide +kernel
theorem tyX2_ok : ∀ k, k < 3 → parseFieldDescriptor (TX2 k).2.2.1 = some (tyX2 k) := by decide +kernel
abbrev cX2_init : ByteArray := prog_4_method_1_code
def yX2_init : MethodName := ⟨RX2, "<init>", "()V"⟩
abbrev cX2_isMissing : ByteArray := prog_4_method_2_code
def yX2_isMissing : MethodName := ⟨RX2, "isMissing", "()Z"⟩
abbrev cX2_layOut : ByteArray := prog_4_method_3_code
def yX2_layOut : MethodName := ⟨RX2, "layOut", "(II)V"⟩
abbrev cX2_put : ByteArray := prog_4_method_4_code
def yX2_put : MethodName := ⟨RX2, "put", "(II)V"⟩
abbrev cX2_hasPart : ByteArray := prog_4_method_5_code
def yX2_hasPart : MethodName := ⟨RX2, "hasPart", "(II)Z"⟩
def RX3 : String := "FollowedHours$Tape"
def TX3 : u_T := fun k => match k with
  | 0 => ("FollowedHours$Tape", "bytes", "[I", true)
  | _ => ("FollowedHours$Tape", "size", "I", false)
def tyX3 : Nat → FieldType := fun k => match k with
  | 0 => .array .int
  | _ => .int
theorem nmX3 : ∀ a, a < 2 → ∀ b, b < 2 → a ≠ b → (TX3 a).2.1 ≠ (TX3 b).2.1 := by decide +kernel
theorem tyX3_ok : ∀ k, k < 2 → parseFieldDescriptor (TX3 k).2.2.1 = some (tyX3 k) := by decide +kernel
abbrev cX3_init : ByteArray := prog_5_method_1_code
def yX3_init : MethodName := ⟨RX3, "<init>", "()V"⟩
abbrev cX3_append : ByteArray := prog_5_method_2_code
def yX3_append : MethodName := ⟨RX3, "append", "(I)V"⟩
abbrev cX3_byteAt : ByteArray := prog_5_method_3_code
def yX3_byteAt : MethodName := ⟨RX3, "byteAt", "(I)I"⟩
def RX4 : String := "FollowedHours"
def TX4 : u_T := fun k => match k with
  | 0 => ("FollowedHours", "garden", "LFollowedHours$Garden;", true)
  | 1 => ("FollowedHours", "kept", "LFollowedHours$Garden;", true)
  | 2 => ("FollowedHours", "trial", "LFollowedHours$Garden;", true)
  | 3 => ("FollowedHours", "tape", "LFollowedHours$Tape;", true)
  | 4 => ("FollowedHours", "reader", "LFollowedHours$Reader;", true)
  | 5 => ("FollowedHours", "sheets", "[LFollowedHours$Sheet;", true)
  | 6 => ("FollowedHours", "findings", "[I", true)
  | _ => ("FollowedHours", "isKept", "Z", false)
def tyX4 : Nat → FieldType := fun k => match k with
  | 0 => .object "FollowedHours$Garden"
  | 1 => .object "FollowedHours$Garden"
  | 2 => .object "FollowedHours$Garden"
  | 3 => .object "FollowedHours$Tape"
  | 4 => .object "FollowedHours$Reader"
  | 5 => .array (.object "FollowedHours$Sheet")
  | 6 => .array .int
  | _ => .boolean
theorem nmX4 : ∀ a, a < 8 → ∀ b, b < 8 → a ≠ b → (TX4 a).2.1 ≠ (TX4 b).2.1 := by decide +kernel
theorem tyX4_ok : ∀ k, k < 8 → parseFieldDescriptor (TX4 k).2.2.1 = some (tyX4 k) := by decide +kernel
abbrev cX4_init : ByteArray := prog_1_method_1_code
def yX4_init : MethodName := ⟨RX4, "<init>", "()V"⟩
abbrev cX4_dial : ByteArray := prog_1_method_2_code
def yX4_dial : MethodName := ⟨RX4, "dial", "(I)I"⟩
abbrev cX4_of : ByteArray := prog_1_method_3_code
def yX4_of : MethodName := ⟨RX4, "of", "(II)I"⟩
abbrev cX4_change : ByteArray := prog_1_method_4_code
def yX4_change : MethodName := ⟨RX4, "change", "(III)I"⟩
abbrev cX4_jog : ByteArray := prog_1_method_5_code
def yX4_jog : MethodName := ⟨RX4, "jog", "(II)I"⟩
abbrev cX4_stop : ByteArray := prog_1_method_6_code
def yX4_stop : MethodName := ⟨RX4, "stop", "(II)I"⟩
abbrev cX4_go : ByteArray := prog_1_method_7_code
def yX4_go : MethodName := ⟨RX4, "go", "(I)I"⟩
abbrev cX4_now : ByteArray := prog_1_method_8_code
def yX4_now : MethodName := ⟨RX4, "now", "(I)I"⟩
abbrev cX4_way : ByteArray := prog_1_method_9_code
def yX4_way : MethodName := ⟨RX4, "way", "(I)I"⟩
abbrev cX4_ring : ByteArray := prog_1_method_10_code
def yX4_ring : MethodName := ⟨RX4, "ring", "(I)I"⟩
abbrev cX4_rings : ByteArray := prog_1_method_11_code
def yX4_rings : MethodName := ⟨RX4, "rings", "()I"⟩
abbrev cX4_before : ByteArray := prog_1_method_12_code
def yX4_before : MethodName := ⟨RX4, "before", "(I)I"⟩
abbrev cX4_under : ByteArray := prog_1_method_13_code
def yX4_under : MethodName := ⟨RX4, "under", "(I)I"⟩
abbrev cX4_greatest : ByteArray := prog_1_method_14_code
def yX4_greatest : MethodName := ⟨RX4, "greatest", "()I"⟩
abbrev cX4_ahead : ByteArray := prog_1_method_15_code
def yX4_ahead : MethodName := ⟨RX4, "ahead", "(II)I"⟩
abbrev cX4_going : ByteArray := prog_1_method_16_code
def yX4_going : MethodName := ⟨RX4, "going", "(II)I"⟩
abbrev cX4_shows : ByteArray := prog_1_method_17_code
def yX4_shows : MethodName := ⟨RX4, "shows", "(II)I"⟩
abbrev cX4_meet : ByteArray := prog_1_method_18_code
def yX4_meet : MethodName := ⟨RX4, "meet", "(II)I"⟩
abbrev cX4_halts : ByteArray := prog_1_method_19_code
def yX4_halts : MethodName := ⟨RX4, "halts", "(I)I"⟩
abbrev cX4_settles : ByteArray := prog_1_method_20_code
def yX4_settles : MethodName := ⟨RX4, "settles", "()I"⟩
abbrev cX4_kindFor : ByteArray := prog_1_method_21_code
def yX4_kindFor : MethodName := ⟨RX4, "kindFor", "(II)I"⟩
abbrev cX4_jogFor : ByteArray := prog_1_method_22_code
def yX4_jogFor : MethodName := ⟨RX4, "jogFor", "(III)I"⟩
abbrev cX4_most : ByteArray := prog_1_method_23_code
def yX4_most : MethodName := ⟨RX4, "most", "()I"⟩
abbrev cX4_jogs : ByteArray := prog_1_method_24_code
def yX4_jogs : MethodName := ⟨RX4, "jogs", "(I)I"⟩
abbrev cX4_right : ByteArray := prog_1_method_25_code
def yX4_right : MethodName := ⟨RX4, "right", "(I)I"⟩
abbrev cX4_masters : ByteArray := prog_1_method_26_code
def yX4_masters : MethodName := ⟨RX4, "masters", "(II)I"⟩
abbrev cX4_kinds : ByteArray := prog_1_method_27_code
def yX4_kinds : MethodName := ⟨RX4, "kinds", "(II)I"⟩
abbrev cX4_masterFor : ByteArray := prog_1_method_28_code
def yX4_masterFor : MethodName := ⟨RX4, "masterFor", "(III)I"⟩
abbrev cX4_halted : ByteArray := prog_1_method_29_code
def yX4_halted : MethodName := ⟨RX4, "halted", "(II)I"⟩
abbrev cX4_weakest : ByteArray := prog_1_method_30_code
def yX4_weakest : MethodName := ⟨RX4, "weakest", "(I)I"⟩
abbrev cX4_cut : ByteArray := prog_1_method_31_code
def yX4_cut : MethodName := ⟨RX4, "cut", "(I)I"⟩
abbrev cX4_frosts : ByteArray := prog_1_method_32_code
def yX4_frosts : MethodName := ⟨RX4, "frosts", "(I)I"⟩
abbrev cX4_odds : ByteArray := prog_1_method_33_code
def yX4_odds : MethodName := ⟨RX4, "odds", "(II)J"⟩
abbrev cX4_seed : ByteArray := prog_1_method_34_code
def yX4_seed : MethodName := ⟨RX4, "seed", "(I)I"⟩
abbrev cX4_feed : ByteArray := prog_1_method_35_code
def yX4_feed : MethodName := ⟨RX4, "feed", "(II)I"⟩
abbrev cX4_wipe : ByteArray := prog_1_method_36_code
def yX4_wipe : MethodName := ⟨RX4, "wipe", "()I"⟩
abbrev cX4_text : ByteArray := prog_1_method_37_code
def yX4_text : MethodName := ⟨RX4, "text", "()I"⟩
abbrev cX4_hold : ByteArray := prog_1_method_38_code
def yX4_hold : MethodName := ⟨RX4, "hold", "(II)I"⟩
abbrev cX4_as : ByteArray := prog_1_method_39_code
def yX4_as : MethodName := ⟨RX4, "as", "(II)I"⟩
abbrev cX4_sheet : ByteArray := prog_1_method_40_code
def yX4_sheet : MethodName := ⟨RX4, "sheet", "(III)I"⟩
abbrev cX4_write : ByteArray := prog_1_method_41_code
def yX4_write : MethodName := ⟨RX4, "write", "(III)I"⟩
abbrev cX4_copy : ByteArray := prog_1_method_42_code
def yX4_copy : MethodName := ⟨RX4, "copy", "(IIIII)I"⟩
abbrev cX4_load : ByteArray := prog_1_method_43_code
def yX4_load : MethodName := ⟨RX4, "load", "(I)I"⟩
abbrev cX4_judge : ByteArray := prog_1_method_44_code
def yX4_judge : MethodName := ⟨RX4, "judge", "(I)I"⟩
abbrev cX4_image : ByteArray := prog_1_method_45_code
def yX4_image : MethodName := ⟨RX4, "image", "()I"⟩
abbrev cX4_undo : ByteArray := prog_1_method_46_code
def yX4_undo : MethodName := ⟨RX4, "undo", "()I"⟩
abbrev cX4_tear : ByteArray := prog_1_method_47_code
def yX4_tear : MethodName := ⟨RX4, "tear", "()I"⟩
abbrev cX4_count : ByteArray := prog_1_method_48_code
def yX4_count : MethodName := ⟨RX4, "count", "(I)I"⟩
abbrev cX4_status : ByteArray := prog_1_method_49_code
def yX4_status : MethodName := ⟨RX4, "status", "(I)I"⟩
abbrev cX4_tell : ByteArray := prog_1_method_50_code
def yX4_tell : MethodName := ⟨RX4, "tell", "(I)I"⟩
abbrev cX4_findingOfSheet : ByteArray := prog_1_method_51_code
def yX4_findingOfSheet : MethodName := ⟨RX4, "findingOfSheet", "(I)I"⟩
abbrev cX4_tryTicks : ByteArray := prog_1_method_52_code
def yX4_tryTicks : MethodName := ⟨RX4, "tryTicks", "(I)V"⟩
abbrev cX4_distanceAs : ByteArray := prog_1_method_53_code
def yX4_distanceAs : MethodName := ⟨RX4, "distanceAs", "(III)I"⟩
abbrev cX4_triedShowsAs : ByteArray := prog_1_method_54_code
def yX4_triedShowsAs : MethodName := ⟨RX4, "triedShowsAs", "(LFollowedHours$Sheet;I)Z"⟩
abbrev cX4_stillIfStopped : ByteArray := prog_1_method_55_code
def yX4_stillIfStopped : MethodName := ⟨RX4, "stillIfStopped", "(II)I"⟩
abbrev cX4_isWithin : ByteArray := prog_1_method_56_code
def yX4_isWithin : MethodName := ⟨RX4, "isWithin", "(III)Z"⟩
abbrev cX4_isKind : ByteArray := prog_1_method_57_code
def yX4_isKind : MethodName := ⟨RX4, "isKind", "(I)Z"⟩
abbrev cX4_isHour : ByteArray := prog_1_method_58_code
def yX4_isHour : MethodName := ⟨RX4, "isHour", "(I)Z"⟩
abbrev cX4_isSpot : ByteArray := prog_1_method_59_code
def yX4_isSpot : MethodName := ⟨RX4, "isSpot", "(I)Z"⟩
abbrev cX4_isSheet : ByteArray := prog_1_method_60_code
def yX4_isSheet : MethodName := ⟨RX4, "isSheet", "(I)Z"⟩
abbrev cX4_isIn : ByteArray := prog_1_method_61_code
def yX4_isIn : MethodName := ⟨RX4, "isIn", "(II)Z"⟩
abbrev cX4_lowestOf : ByteArray := prog_1_method_62_code
def yX4_lowestOf : MethodName := ⟨RX4, "lowestOf", "(I)I"⟩
abbrev cX4_roundHour : ByteArray := prog_1_method_63_code
def yX4_roundHour : MethodName := ⟨RX4, "roundHour", "(I)I"⟩
abbrev cX4_hoursBetween : ByteArray := prog_1_method_64_code
def yX4_hoursBetween : MethodName := ⟨RX4, "hoursBetween", "(II)I"⟩
abbrev cX4_isOfKind : ByteArray := prog_1_method_65_code
def yX4_isOfKind : MethodName := ⟨RX4, "isOfKind", "(II)Z"⟩
def RX5 : String := "FollowedHoursModel"
def TX5 : u_T := fun k => match k with
  | 0 => ("FollowedHoursModel", "now", "[I", true)
  | 1 => ("FollowedHoursModel", "kept", "[I", true)
  | 2 => ("FollowedHoursModel", "aside", "[I", true)
  | 3 => ("FollowedHoursModel", "isKept", "Z", false)
  | 4 => ("FollowedHoursModel", "found", "[I", true)
  | 5 => ("FollowedHoursModel", "goings", "[I", true)
  | 6 => ("FollowedHoursModel", "tape", "[I", true)
  | 7 => ("FollowedHoursModel", "taped", "I", false)
  | 8 => ("FollowedHoursModel", "begins", "I", false)
  | 9 => ("FollowedHoursModel", "ends", "I", false)
  | 10 => ("FollowedHoursModel", "sort", "I", false)
  | 11 => ("FollowedHoursModel", "value", "I", false)
  | 12 => ("FollowedHoursModel", "isWrong", "Z", false)
  | 13 => ("FollowedHoursModel", "kindNames", "[Ljava/lang/String;", true)
  | 14 => ("FollowedHoursModel", "items", "[I", true)
  | 15 => ("FollowedHoursModel", "itemMany", "I", false)
  | 16 => ("FollowedHoursModel", "dialThen", "I", false)
  | 17 => ("FollowedHoursModel", "widths", "[I", true)
  | 18 => ("FollowedHoursModel", "sizes", "[I", true)
  | 19 => ("FollowedHoursModel", "numbers", "[I", true)
  | _ => ("FollowedHoursModel", "moved", "[I", true)
def tyX5 : Nat → FieldType := fun k => match k with
  | 0 => .array .int
  | 1 => .array .int
  | 2 => .array .int
  | 3 => .boolean
  | 4 => .array .int
  | 5 => .array .int
  | 6 => .array .int
  | 7 => .int
  | 8 => .int
  | 9 => .int
  | 10 => .int
  | 11 => .int
  | 12 => .boolean
  | 13 => .array (.object "java/lang/String")
  | 14 => .array .int
  | 15 => .int
  | 16 => .int
  | 17 => .array .int
  | 18 => .array .int
  | 19 => .array .int
  | _ => .array .int
theorem nmX5 : ∀ a, a < 21 → ∀ b, b < 21 → a ≠ b → (TX5 a).2.1 ≠ (TX5 b).2.1 := by decide +kernel
theorem tyX5_ok : ∀ k, k < 21 → parseFieldDescriptor (TX5 k).2.2.1 = some (tyX5 k) := by decide +kernel
abbrev cX5_init : ByteArray := prog_7_method_1_code
def yX5_init : MethodName := ⟨RX5, "<init>", "()V"⟩
abbrev cX5_finding : ByteArray := prog_7_method_2_code
def yX5_finding : MethodName := ⟨RX5, "finding", "(I)I"⟩
abbrev cX5_within : ByteArray := prog_7_method_3_code
def yX5_within : MethodName := ⟨RX5, "within", "(III)Z"⟩
abbrev cX5_become : ByteArray := prog_7_method_4_code
def yX5_become : MethodName := ⟨RX5, "become", "(II)I"⟩
abbrev cX5_copyRow : ByteArray := prog_7_method_5_code
def yX5_copyRow : MethodName := ⟨RX5, "copyRow", "([I[I)V"⟩
abbrev cX5_putBack : ByteArray := prog_7_method_6_code
def yX5_putBack : MethodName := ⟨RX5, "putBack", "(I)I"⟩
abbrev cX5_orNone : ByteArray := prog_7_method_7_code
def yX5_orNone : MethodName := ⟨RX5, "orNone", "(I)I"⟩
abbrev cX5_has : ByteArray := prog_7_method_8_code
def yX5_has : MethodName := ⟨RX5, "has", "(II)Z"⟩
abbrev cX5_bits : ByteArray := prog_7_method_9_code
def yX5_bits : MethodName := ⟨RX5, "bits", "(I)I"⟩
abbrev cX5_isDial : ByteArray := prog_7_method_10_code
def yX5_isDial : MethodName := ⟨RX5, "isDial", "(I)Z"⟩
abbrev cX5_isKind : ByteArray := prog_7_method_11_code
def yX5_isKind : MethodName := ⟨RX5, "isKind", "(I)Z"⟩
abbrev cX5_isHour : ByteArray := prog_7_method_12_code
def yX5_isHour : MethodName := ⟨RX5, "isHour", "(I)Z"⟩
abbrev cX5_at : ByteArray := prog_7_method_13_code
def yX5_at : MethodName := ⟨RX5, "at", "(II)I"⟩
abbrev cX5_dialIs : ByteArray := prog_7_method_14_code
def yX5_dialIs : MethodName := ⟨RX5, "dialIs", "(II)I"⟩
abbrev cX5_isStopped : ByteArray := prog_7_method_15_code
def yX5_isStopped : MethodName := ⟨RX5, "isStopped", "(I)Z"⟩
abbrev cX5_comes : ByteArray := prog_7_method_16_code
def yX5_comes : MethodName := ⟨RX5, "comes", "(IIIIII)I"⟩
abbrev cX5_dial : ByteArray := prog_7_method_17_code
def yX5_dial : MethodName := ⟨RX5, "dial", "(I)I"⟩
abbrev cX5_above : ByteArray := prog_7_method_18_code
def yX5_above : MethodName := ⟨RX5, "above", "(I)I"⟩
abbrev cX5_isUnder : ByteArray := prog_7_method_19_code
def yX5_isUnder : MethodName := ⟨RX5, "isUnder", "(II)Z"⟩
abbrev cX5_late : ByteArray := prog_7_method_20_code
def yX5_late : MethodName := ⟨RX5, "late", "(I)I"⟩
abbrev cX5_plainPace : ByteArray := prog_7_method_21_code
def yX5_plainPace : MethodName := ⟨RX5, "plainPace", "(I)I"⟩
abbrev cX5_pace : ByteArray := prog_7_method_22_code
def yX5_pace : MethodName := ⟨RX5, "pace", "(I)I"⟩
abbrev cX5_of : ByteArray := prog_7_method_23_code
def yX5_of : MethodName := ⟨RX5, "of", "(II)I"⟩
abbrev cX5_mayBe : ByteArray := prog_7_method_24_code
def yX5_mayBe : MethodName := ⟨RX5, "mayBe", "(II)Z"⟩
abbrev cX5_change : ByteArray := prog_7_method_25_code
def yX5_change : MethodName := ⟨RX5, "change", "(III)I"⟩
abbrev cX5_round : ByteArray := prog_7_method_26_code
def yX5_round : MethodName := ⟨RX5, "round", "(I)I"⟩
abbrev cX5_jog : ByteArray := prog_7_method_27_code
def yX5_jog : MethodName := ⟨RX5, "jog", "(II)I"⟩
abbrev cX5_stops : ByteArray := prog_7_method_28_code
def yX5_stops : MethodName := ⟨RX5, "stops", "(II)Z"⟩
abbrev cX5_stop : ByteArray := prog_7_method_29_code
def yX5_stop : MethodName := ⟨RX5, "stop", "(II)I"⟩
abbrev cX5_tick : ByteArray := prog_7_method_30_code
def yX5_tick : MethodName := ⟨RX5, "tick", "()V"⟩
abbrev cX5_ticks : ByteArray := prog_7_method_31_code
def yX5_ticks : MethodName := ⟨RX5, "ticks", "(I)V"⟩
abbrev cX5_go : ByteArray := prog_7_method_32_code
def yX5_go : MethodName := ⟨RX5, "go", "(I)I"⟩
abbrev cX5_stoppedNow : ByteArray := prog_7_method_33_code
def yX5_stoppedNow : MethodName := ⟨RX5, "stoppedNow", "()I"⟩
abbrev cX5_stillNow : ByteArray := prog_7_method_34_code
def yX5_stillNow : MethodName := ⟨RX5, "stillNow", "()I"⟩
abbrev cX5_ownNow : ByteArray := prog_7_method_35_code
def yX5_ownNow : MethodName := ⟨RX5, "ownNow", "()I"⟩
abbrev cX5_sumOf : ByteArray := prog_7_method_36_code
def yX5_sumOf : MethodName := ⟨RX5, "sumOf", "(I)I"⟩
abbrev cX5_manyShow : ByteArray := prog_7_method_37_code
def yX5_manyShow : MethodName := ⟨RX5, "manyShow", "(I)I"⟩
abbrev cX5_whoShow : ByteArray := prog_7_method_38_code
def yX5_whoShow : MethodName := ⟨RX5, "whoShow", "(I)I"⟩
abbrev cX5_now : ByteArray := prog_7_method_39_code
def yX5_now : MethodName := ⟨RX5, "now", "(I)I"⟩
abbrev cX5_wayOf : ByteArray := prog_7_method_40_code
def yX5_wayOf : MethodName := ⟨RX5, "wayOf", "(I)I"⟩
abbrev cX5_ringOf : ByteArray := prog_7_method_41_code
def yX5_ringOf : MethodName := ⟨RX5, "ringOf", "(I)I"⟩
abbrev cX5_way : ByteArray := prog_7_method_42_code
def yX5_way : MethodName := ⟨RX5, "way", "(I)I"⟩
abbrev cX5_ring : ByteArray := prog_7_method_43_code
def yX5_ring : MethodName := ⟨RX5, "ring", "(I)I"⟩
abbrev cX5_manyRings : ByteArray := prog_7_method_44_code
def yX5_manyRings : MethodName := ⟨RX5, "manyRings", "()I"⟩
abbrev cX5_rings : ByteArray := prog_7_method_45_code
def yX5_rings : MethodName := ⟨RX5, "rings", "()I"⟩
abbrev cX5_before : ByteArray := prog_7_method_46_code
def yX5_before : MethodName := ⟨RX5, "before", "(I)I"⟩
abbrev cX5_underOf : ByteArray := prog_7_method_47_code
def yX5_underOf : MethodName := ⟨RX5, "underOf", "(I)I"⟩
abbrev cX5_under : ByteArray := prog_7_method_48_code
def yX5_under : MethodName := ⟨RX5, "under", "(I)I"⟩
abbrev cX5_greatest : ByteArray := prog_7_method_49_code
def yX5_greatest : MethodName := ⟨RX5, "greatest", "()I"⟩
abbrev cX5_behind : ByteArray := prog_7_method_50_code
def yX5_behind : MethodName := ⟨RX5, "behind", "(III)I"⟩
abbrev cX5_ahead : ByteArray := prog_7_method_51_code
def yX5_ahead : MethodName := ⟨RX5, "ahead", "(II)I"⟩
abbrev cX5_going : ByteArray := prog_7_method_52_code
def yX5_going : MethodName := ⟨RX5, "going", "(II)I"⟩
abbrev cX5_shows : ByteArray := prog_7_method_53_code
def yX5_shows : MethodName := ⟨RX5, "shows", "(II)I"⟩
abbrev cX5_meet : ByteArray := prog_7_method_54_code
def yX5_meet : MethodName := ⟨RX5, "meet", "(II)I"⟩
abbrev cX5_halts : ByteArray := prog_7_method_55_code
def yX5_halts : MethodName := ⟨RX5, "halts", "(I)I"⟩
abbrev cX5_isSettled : ByteArray := prog_7_method_56_code
def yX5_isSettled : MethodName := ⟨RX5, "isSettled", "()Z"⟩
abbrev cX5_settles : ByteArray := prog_7_method_57_code
def yX5_settles : MethodName := ⟨RX5, "settles", "()I"⟩
abbrev cX5_farIn : ByteArray := prog_7_method_58_code
def yX5_farIn : MethodName := ⟨RX5, "farIn", "(II)I"⟩
abbrev cX5_kindFor : ByteArray := prog_7_method_59_code
def yX5_kindFor : MethodName := ⟨RX5, "kindFor", "(II)I"⟩
abbrev cX5_jogFor : ByteArray := prog_7_method_60_code
def yX5_jogFor : MethodName := ⟨RX5, "jogFor", "(III)I"⟩
abbrev cX5_mostShown : ByteArray := prog_7_method_61_code
def yX5_mostShown : MethodName := ⟨RX5, "mostShown", "()I"⟩
abbrev cX5_most : ByteArray := prog_7_method_62_code
def yX5_most : MethodName := ⟨RX5, "most", "()I"⟩
abbrev cX5_rightBehind : ByteArray := prog_7_method_63_code
def yX5_rightBehind : MethodName := ⟨RX5, "rightBehind", "(I)I"⟩
abbrev cX5_jogs : ByteArray := prog_7_method_64_code
def yX5_jogs : MethodName := ⟨RX5, "jogs", "(I)I"⟩
abbrev cX5_right : ByteArray := prog_7_method_65_code
def yX5_right : MethodName := ⟨RX5, "right", "(I)I"⟩
abbrev cX5_lacks : ByteArray := prog_7_method_66_code
def yX5_lacks : MethodName := ⟨RX5, "lacks", "(I)I"⟩
abbrev cX5_isShownSo : ByteArray := prog_7_method_67_code
def yX5_isShownSo : MethodName := ⟨RX5, "isShownSo", "(II)Z"⟩
abbrev cX5_fitting : ByteArray := prog_7_method_68_code
def yX5_fitting : MethodName := ⟨RX5, "fitting", "(IIII)I"⟩
abbrev cX5_masters : ByteArray := prog_7_method_69_code
def yX5_masters : MethodName := ⟨RX5, "masters", "(II)I"⟩
abbrev cX5_kinds : ByteArray := prog_7_method_70_code
def yX5_kinds : MethodName := ⟨RX5, "kinds", "(II)I"⟩
abbrev cX5_masterFor : ByteArray := prog_7_method_71_code
def yX5_masterFor : MethodName := ⟨RX5, "masterFor", "(III)I"⟩
abbrev cX5_stillWith : ByteArray := prog_7_method_72_code
def yX5_stillWith : MethodName := ⟨RX5, "stillWith", "(II)I"⟩
abbrev cX5_halted : ByteArray := prog_7_method_73_code
def yX5_halted : MethodName := ⟨RX5, "halted", "(II)I"⟩
abbrev cX5_weakest : ByteArray := prog_7_method_74_code
def yX5_weakest : MethodName := ⟨RX5, "weakest", "(I)I"⟩
abbrev cX5_cut : ByteArray := prog_7_method_75_code
def yX5_cut : MethodName := ⟨RX5, "cut", "(I)I"⟩
abbrev cX5_drawn : ByteArray := prog_7_method_76_code
def yX5_drawn : MethodName := ⟨RX5, "drawn", "()I"⟩
abbrev cX5_frosts : ByteArray := prog_7_method_77_code
def yX5_frosts : MethodName := ⟨RX5, "frosts", "(I)I"⟩
abbrev cX5_odds : ByteArray := prog_7_method_78_code
def yX5_odds : MethodName := ⟨RX5, "odds", "(II)J"⟩
abbrev cX5_seed : ByteArray := prog_7_method_79_code
def yX5_seed : MethodName := ⟨RX5, "seed", "(I)I"⟩
abbrev cX5_feed : ByteArray := prog_7_method_80_code
def yX5_feed : MethodName := ⟨RX5, "feed", "(II)I"⟩
abbrev cX5_wipe : ByteArray := prog_7_method_81_code
def yX5_wipe : MethodName := ⟨RX5, "wipe", "()I"⟩
abbrev cX5_byteAt : ByteArray := prog_7_method_82_code
def yX5_byteAt : MethodName := ⟨RX5, "byteAt", "(I)I"⟩
abbrev cX5_next : ByteArray := prog_7_method_83_code
def yX5_next : MethodName := ⟨RX5, "next", "()V"⟩
abbrev cX5_isWord : ByteArray := prog_7_method_84_code
def yX5_isWord : MethodName := ⟨RX5, "isWord", "(Ljava/lang/String;)Z"⟩
abbrev cX5_must : ByteArray := prog_7_method_85_code
def yX5_must : MethodName := ⟨RX5, "must", "(Z)V"⟩
abbrev cX5_number : ByteArray := prog_7_method_86_code
def yX5_number : MethodName := ⟨RX5, "number", "(II)I"⟩
abbrev cX5_item : ByteArray := prog_7_method_87_code
def yX5_item : MethodName := ⟨RX5, "item", "(IIIIII)V"⟩
abbrev cX5_kindTold : ByteArray := prog_7_method_88_code
def yX5_kindTold : MethodName := ⟨RX5, "kindTold", "()I"⟩
abbrev cX5_isNext : ByteArray := prog_7_method_89_code
def yX5_isNext : MethodName := ⟨RX5, "isNext", "(Ljava/lang/String;)Z"⟩
abbrev cX5_goesTold : ByteArray := prog_7_method_90_code
def yX5_goesTold : MethodName := ⟨RX5, "goesTold", "()I"⟩
abbrev cX5_readItem : ByteArray := prog_7_method_91_code
def yX5_readItem : MethodName := ⟨RX5, "readItem", "()V"⟩
abbrev cX5_isToldSo : ByteArray := prog_7_method_92_code
def yX5_isToldSo : MethodName := ⟨RX5, "isToldSo", "(I)I"⟩
abbrev cX5_text : ByteArray := prog_7_method_93_code
def yX5_text : MethodName := ⟨RX5, "text", "()I"⟩
abbrev cX5_isSpot : ByteArray := prog_7_method_94_code
def yX5_isSpot : MethodName := ⟨RX5, "isSpot", "(I)Z"⟩
abbrev cX5_hold : ByteArray := prog_7_method_95_code
def yX5_hold : MethodName := ⟨RX5, "hold", "(II)I"⟩
abbrev cX5_as : ByteArray := prog_7_method_96_code
def yX5_as : MethodName := ⟨RX5, "as", "(II)I"⟩
abbrev cX5_isSheet : ByteArray := prog_7_method_97_code
def yX5_isSheet : MethodName := ⟨RX5, "isSheet", "(I)Z"⟩
abbrev cX5_cutTo : ByteArray := prog_7_method_98_code
def yX5_cutTo : MethodName := ⟨RX5, "cutTo", "(II)I"⟩
abbrev cX5_sheet : ByteArray := prog_7_method_99_code
def yX5_sheet : MethodName := ⟨RX5, "sheet", "(III)I"⟩
abbrev cX5_write : ByteArray := prog_7_method_100_code
def yX5_write : MethodName := ⟨RX5, "write", "(III)I"⟩
abbrev cX5_copy : ByteArray := prog_7_method_101_code
def yX5_copy : MethodName := ⟨RX5, "copy", "(IIIII)I"⟩
abbrev cX5_load : ByteArray := prog_7_method_102_code
def yX5_load : MethodName := ⟨RX5, "load", "(I)I"⟩
abbrev cX5_judge : ByteArray := prog_7_method_103_code
def yX5_judge : MethodName := ⟨RX5, "judge", "(I)I"⟩
abbrev cX5_image : ByteArray := prog_7_method_104_code
def yX5_image : MethodName := ⟨RX5, "image", "()I"⟩
abbrev cX5_undo : ByteArray := prog_7_method_105_code
def yX5_undo : MethodName := ⟨RX5, "undo", "()I"⟩
abbrev cX5_tear : ByteArray := prog_7_method_106_code
def yX5_tear : MethodName := ⟨RX5, "tear", "()I"⟩
abbrev cX5_count : ByteArray := prog_7_method_107_code
def yX5_count : MethodName := ⟨RX5, "count", "(I)I"⟩
abbrev cX5_status : ByteArray := prog_7_method_108_code
def yX5_status : MethodName := ⟨RX5, "status", "(I)I"⟩
def RJ6 : String := "java/lang/Integer"
abbrev cJ6_numberOfTrailingZeros_0f7a4 : ByteArray := prog_8_method_48_code
def yJ6_numberOfTrailingZeros_0f7a4 : MethodName := ⟨RJ6, "numberOfTrailingZeros", "(I)I"⟩
abbrev cJ6_bitCount_0f7a4 : ByteArray := prog_8_method_49_code
def yJ6_bitCount_0f7a4 : MethodName := ⟨RJ6, "bitCount", "(I)I"⟩
def RJ9 : String := "java/lang/Math"
abbrev cJ9_floorMod_7cf53 : ByteArray := prog_9_method_50_code
def yJ9_floorMod_7cf53 : MethodName := ⟨RJ9, "floorMod", "(II)I"⟩
abbrev cJ9_abs_0f7a4 : ByteArray := prog_9_method_59_code
def yJ9_abs_0f7a4 : MethodName := ⟨RJ9, "abs", "(I)I"⟩
abbrev cJ9_max_7cf53 : ByteArray := prog_9_method_65_code
def yJ9_max_7cf53 : MethodName := ⟨RJ9, "max", "(II)I"⟩
abbrev cJ9_min_7cf53 : ByteArray := prog_9_method_69_code
def yJ9_min_7cf53 : MethodName := ⟨RJ9, "min", "(II)I"⟩
def RJ0 : String := "java/lang/String"
abbrev cJ0_length_8abf5 : ByteArray := prog_10_method_54_code
def yJ0_length_8abf5 : MethodName := ⟨RJ0, "length", "()I"⟩
abbrev cJ0_charAt_5068e : ByteArray := prog_10_method_56_code
def yJ0_charAt_5068e : MethodName := ⟨RJ0, "charAt", "(I)C"⟩
abbrev cJ0_coder_7d493 : ByteArray := prog_10_method_152_code
def yJ0_coder_7d493 : MethodName := ⟨RJ0, "coder", "()B"⟩
abbrev cJ0_isLatin1_aae02 : ByteArray := prog_10_method_154_code
def yJ0_isLatin1_aae02 : MethodName := ⟨RJ0, "isLatin1", "()Z"⟩
abbrev cJ0_checkIndex_df160 : ByteArray := prog_10_method_155_code
def yJ0_checkIndex_df160 : MethodName := ⟨RJ0, "checkIndex", "(II)V"⟩
def RJ1 : String := "java/lang/StringLatin1"
abbrev cJ1_charAt_3b067 : ByteArray := prog_11_method_2_code
def yJ1_charAt_3b067 : MethodName := ⟨RJ1, "charAt", "([BI)C"⟩
def RJ2 : String := "java/lang/StringUTF16"
abbrev cJ2_getChar_3b067 : ByteArray := prog_12_method_5_code
def yJ2_getChar_3b067 : MethodName := ⟨RJ2, "getChar", "([BI)C"⟩
abbrev cJ2_length_9d52b : ByteArray := prog_12_method_6_code
def yJ2_length_9d52b : MethodName := ⟨RJ2, "length", "([B)I"⟩
abbrev cJ2_charAt_3b067 : ByteArray := prog_12_method_83_code
def yJ2_charAt_3b067 : MethodName := ⟨RJ2, "charAt", "([BI)C"⟩
abbrev cJ2_checkIndex_2214a : ByteArray := prog_12_method_91_code
def yJ2_checkIndex_2214a : MethodName := ⟨RJ2, "checkIndex", "(I[B)V"⟩
def RJ10 : String := "java/lang/System"
def RJ3 : String := "jdk/internal/util/Preconditions"
abbrev cJ3_checkIndex_8e157 : ByteArray := prog_14_method_11_code
def yJ3_checkIndex_8e157 : MethodName := ⟨RJ3, "checkIndex", "(IILjava/util/function/BiFunction;)I"⟩
def RL : String := "FollowedHoursLaw"
abbrev fh_cl : List vw_C := [(RX0, TX0, 12), (RX1, TX1, 6), (RX2, TX2, 3), (RX3, TX3, 2), (RX4, TX4, 8), (RX5, TX5, 21)]
theorem fh_in0 : ∀ w ∈ u_ws RX0 TX0 12, w ∈ fh_T := by
  intro w hw
  have h : w ∈ lw_tbl := (by decide +kernel : ∀ w ∈ u_ws RX0 TX0 12, w ∈ lw_tbl) w hw
  exact List.mem_filter.mpr ⟨h, (by decide +kernel : ∀ w ∈ u_ws RX0 TX0 12, goodWord w = true) w hw⟩
theorem fh_in1 : ∀ w ∈ u_ws RX1 TX1 6, w ∈ fh_T := by
  intro w hw
  have h : w ∈ lw_tbl := (by decide +kernel : ∀ w ∈ u_ws RX1 TX1 6, w ∈ lw_tbl) w hw
  exact List.mem_filter.mpr ⟨h, (by decide +kernel : ∀ w ∈ u_ws RX1 TX1 6, goodWord w = true) w hw⟩
theorem fh_in2 : ∀ w ∈ u_ws RX2 TX2 3, w ∈ fh_T := by
  intro w hw
  have h : w ∈ lw_tbl := (by decide +kernel : ∀ w ∈ u_ws RX2 TX2 3, w ∈ lw_tbl) w hw
  exact List.mem_filter.mpr ⟨h, (by decide +kernel : ∀ w ∈ u_ws RX2 TX2 3, goodWord w = true) w hw⟩
theorem fh_in3 : ∀ w ∈ u_ws RX3 TX3 2, w ∈ fh_T := by
  intro w hw
  have h : w ∈ lw_tbl := (by decide +kernel : ∀ w ∈ u_ws RX3 TX3 2, w ∈ lw_tbl) w hw
  exact List.mem_filter.mpr ⟨h, (by decide +kernel : ∀ w ∈ u_ws RX3 TX3 2, goodWord w = true) w hw⟩
theorem fh_in4 : ∀ w ∈ u_ws RX4 TX4 8, w ∈ fh_T := by
  intro w hw
  have h : w ∈ lw_tbl := (by decide +kernel : ∀ w ∈ u_ws RX4 TX4 8, w ∈ lw_tbl) w hw
  exact List.mem_filter.mpr ⟨h, (by decide +kernel : ∀ w ∈ u_ws RX4 TX4 8, goodWord w = true) w hw⟩
theorem fh_in5 : ∀ w ∈ u_ws RX5 TX5 21, w ∈ fh_T := by
  intro w hw
  have h : w ∈ lw_tbl := (by decide +kernel : ∀ w ∈ u_ws RX5 TX5 21, w ∈ lw_tbl) w hw
  exact List.mem_filter.mpr ⟨h, (by decide +kernel : ∀ w ∈ u_ws RX5 TX5 21, goodWord w = true) w hw⟩
end
section
/-! ===== the abstract store: cell k, place j; all references are fixed ===== -/
abbrev fh_S : Type := Nat → Nat → Int32
abbrev fh_E : Type := va_G × (ClassId × ClassId × ClassId) × (Nat → Nat) × (Nat → Nat) × (Nat → Nat) × Nat × (Nat → Prop)
def fh_D (E : fh_E) : va_G := E.1
def fh_cI (E : fh_E) : ClassId := E.2.1.1
def fh_cS (E : fh_E) : ClassId := E.2.1.2.1
def fh_cT (E : fh_E) : ClassId := E.2.1.2.2
def fh_ad (E : fh_E) : Nat → Nat := E.2.2.1
def fh_aK (E : fh_E) : Nat → Nat := E.2.2.2.1
def fh_aV (E : fh_E) : Nat → Nat := E.2.2.2.2.1
def fh_tu (E : fh_E) : Nat := E.2.2.2.2.2.1
def fh_A (E : fh_E) : Nat → Prop := E.2.2.2.2.2.2
/-- the shape of a cell: an int[] of so many; an object (its class's number; a field is an int or a fixed cell); Sheet[] (true), String[] (false) -/
abbrev fh_Sh : Type := Nat ⊕ ((Nat × List (Option Nat)) ⊕ Bool)
def fh_gsh (g : Nat) : List fh_Sh := .inr (.inl (0, [some (g+1), some (g+2), some (g+3), some (g+4), some (g+5), some (g+6), some (g+7), some (g+8), some (g+9), none, none, none])) :: List.replicate 9 (.inl 10)
def fh_tab : List fh_Sh :=
  [.inr (.inl (4, [some 1, some 11, some 21, some 31, some 33, some 34, some 43, none]))] ++ fh_gsh 1 ++ fh_gsh 11 ++ fh_gsh 21 ++
  [.inr (.inl (3, [some 32, none])), .inl 120, .inr (.inl (1, [some 31, none, none, none, none, none])), .inr (.inr true),
   .inr (.inl (2, [some 36, none, none])), .inl 40, .inr (.inl (2, [some 38, none, none])), .inl 40, .inr (.inl (2, [some 40, none, none])), .inl 40, .inr (.inl (2, [some 42, none, none])), .inl 40, .inl 7,
   .inr (.inl (5, [some 45, some 46, some 47, none, some 48, some 49, some 50, none, none, none, none, none, none, some 51, some 52, none, none, some 53, some 54, some 55, some 56])),
   .inl 73, .inl 73, .inl 73, .inl 8, .inl 10, .inl 120, .inr (.inr false), .inl 720, .inl 4, .inl 4, .inl 160, .inl 40]
theorem fh_tab_len : fh_tab.length = 57 := by decide +kernel
def fh_shp (k : Nat) : Option fh_Sh := fh_tab[k]?
def fh_ce (E : fh_E) (f : Nat → Int32) (sh : fh_Sh) : va_E := match sh with
  | .inl n => .inl (fh_cI E, n, .inl f)
  | .inr (.inl (ci, fs)) => .inr (ci, fs.mapIdx (fun j o => match o with
    | none => Value.int (f j)
    | some q => .ref (fh_ad E q)))
  | .inr (.inr true) => .inl (fh_cS E, 4, .inr (.inr (.inr (.inr (fun j => some (fh_ad E (35 + 2 * j)))))))
  | .inr (.inr false) => .inl (fh_cT E, 7, .inr (.inr (.inr (.inr (fun j => some (fh_aK E (13 + j)))))))
def fh_ws (E : fh_E) (σ : fh_S) : va_W := fh_tab.mapIdx (fun k sh => (fh_ad E k, fh_ce E (σ k) sh))
def fh_row (σ : fh_S) (k : Nat) (f : Nat → Int32) : fh_S := fun a => if a = k then f else σ a
theorem fh_row_s {σ : fh_S} {k : Nat} {f : Nat → Int32} : fh_row σ k f k = f := if_pos rfl
theorem fh_row_n {σ : fh_S} {k a : Nat} {f : Nat → Int32} (h : a ≠ k) : fh_row σ k f a = σ a := if_neg h
theorem fh_look {E : fh_E} {σ : fh_S} {k : Nat} {sh : fh_Sh} (h : fh_shp k = some sh) : (fh_ws E σ)[k]? = some (fh_ad E k, fh_ce E (σ k) sh) := by
  unfold fh_ws
  rw [List.getElem?_mapIdx]
  unfold fh_shp at h
  rw [h]
  rfl
theorem fh_set {E : fh_E} {σ : fh_S} {k : Nat} {sh : fh_Sh} {f : Nat → Int32} (h : fh_shp k = some sh) : (fh_ws E σ).set k (fh_ad E k, fh_ce E f sh) = fh_ws E (fh_row σ k f) := by
  unfold fh_shp at h
  have hl : k < fh_tab.length := (List.getElem?_eq_some_iff.mp h).1
  apply List.ext_getElem?
  intro i
  unfold fh_ws
  by_cases hi : i = k
  · subst hi
    rw [List.getElem?_set_self (by simpa using hl), List.getElem?_mapIdx, h]
    simp [fh_row]
  · rw [List.getElem?_set_ne (Ne.symm hi), List.getElem?_mapIdx, List.getElem?_mapIdx]
    simp [fh_row, hi]
def fh_ok (E : fh_E) : Prop := (∀ i j, i < 57 → j < 57 → fh_ad E i = fh_ad E j → i = j) ∧ ∀ k, k < 57 → fh_A E (fh_ad E k)
theorem fh_hD {E : fh_E} (h : fh_ok E) (σ : fh_S) : va_D (fh_A E) (fh_ws E σ) := by
  have key : ∀ (k : Nat) (q : Nat × va_E), (fh_ws E σ)[k]? = some q → k < 57 ∧ q.1 = fh_ad E k := by
    intro k q hq
    unfold fh_ws at hq
    rw [List.getElem?_mapIdx] at hq
    cases ht : fh_tab[k]? with
    | none => rw [ht] at hq; cases hq
    | some sh =>
      rw [ht] at hq
      cases hq
      have := (List.getElem?_eq_some_iff.mp ht).1
      rw [fh_tab_len] at this
      exact ⟨this, rfl⟩
  refine ⟨fun i j p q hi hj e => ?_, fun k q hk => ?_⟩
  · obtain ⟨a1, a2⟩ := key i p hi
    obtain ⟨b1, b2⟩ := key j q hj
    exact h.1 i j a1 b1 (by rw [← a2, ← b2]; exact e)
  · obtain ⟨a1, a2⟩ := key k q hk
    rw [a2]
    exact h.2 k a1
/-! what an instruction does to the store; none: it can't be so -/
def fh_arr (k : Nat) : Option Nat := match fh_shp k with
  | some (.inl n) => some n
  | _ => none
def fh_obj (ci k : Nat) : Option (List (Option Nat)) := match fh_shp k with
  | some (.inr (.inl (c, fs))) => if c = ci then some fs else none
  | _ => none
def fh_isC (ci k : Nat) : Bool := (fh_obj ci k).isSome
def fh_ld (σ : fh_S) (k : Nat) (i : Int32) : Option Int32 := (fh_arr k).bind fun n => if i < 0 ∨ n ≤ i.toNatClampNeg then none else some (σ k i.toNatClampNeg)
def fh_st (σ : fh_S) (k : Nat) (i v : Int32) : Option fh_S := (fh_arr k).bind fun n => if i < 0 ∨ n ≤ i.toNatClampNeg then none else some (fh_row σ k (upd (σ k) i.toNatClampNeg v))
def fh_ln (k : Nat) : Option Int32 := match fh_shp k with
  | some (.inl n) => some (Int32.ofNat n)
  | some (.inr (.inr false)) => some 7
  | _ => none
def fh_gi (σ : fh_S) (ci k j : Nat) : Option Int32 := (fh_obj ci k).bind fun fs => match fs[j]? with
  | some none => some (σ k j)
  | _ => none
def fh_gr (ci k j : Nat) : Option Nat := (fh_obj ci k).bind fun fs => match fs[j]? with
  | some (some q) => some q
  | _ => none
def fh_pf (σ : fh_S) (ci k j : Nat) (v : Int32) : Option fh_S := (fh_obj ci k).bind fun fs => match fs[j]? with
  | some none => some (fh_row σ k (upd (σ k) j v))
  | _ => none
def fh_pz (σ : fh_S) (ci k j : Nat) (v : Int32) : Option fh_S := if v = 0 ∨ v = 1 then fh_pf σ ci k j v else none
def fh_lr (k : Nat) (i : Int32) : Option Nat := match fh_shp k with
  | some (.inr (.inr true)) => if i < 0 ∨ 4 ≤ i.toNatClampNeg then none else some (35 + 2 * i.toNatClampNeg)
  | _ => none
def fh_ls (k : Nat) (i : Int32) : Option Nat := match fh_shp k with
  | some (.inr (.inr false)) => if i < 0 ∨ 7 ≤ i.toNatClampNeg then none else some (13 + i.toNatClampNeg)
  | _ => none
def fh_cp (σ : fh_S) (k1 : Nat) (sp : Int32) (k2 : Nat) (dp n : Int32) : Option fh_S := (fh_arr k1).bind fun n1 => (fh_arr k2).bind fun n2 =>
  if sp < 0 ∨ dp < 0 ∨ n < 0 ∨ n1 < sp.toNatClampNeg + n.toNatClampNeg ∨ n2 < dp.toNatClampNeg + n.toNatClampNeg then none
  else some (fh_row σ k2 (va_cpy (σ k1) (σ k2) sp.toNatClampNeg dp.toNatClampNeg n.toNatClampNeg))
def fh_uk : List Int32 := [-1, 0, 0, 2, 3, 0, 1]
def fh_tk (i : Int32) : Option Int32 := if i < 0 ∨ 7 ≤ i.toNatClampNeg then none else some (fh_uk.getD i.toNatClampNeg 0)
/-- an instance method's body: of an object of its class alone -/
def fh_ob {β : Type} (ci k : Nat) (x : Option β) : Option β := if fh_isC ci k = true then x else none
theorem fh_ob_ok {β : Type} {ci k : Nat} {x : Option β} {y : β} (h : fh_ob ci k x = some y) : fh_isC ci k = true := by
  unfold fh_ob at h
  split at h
  · assumption
  · cases h
/-- behind a call -/
def fh_cb {α β : Type} (x : Option (α × fh_S)) (f : α → fh_S → Option β) : Option β := x.bind fun q => f q.1 q.2
theorem fh_cb_s {α β : Type} {r : α} {σ : fh_S} {f : α → fh_S → Option β} : fh_cb (some (r, σ)) f = f r σ := rfl
/-- a boolean's return -/
def fh_rz (v : Int32) (σ : fh_S) : Option (Int32 × fh_S) := if v = 0 ∨ v = 1 then some (v, σ) else none
def fh_vI : Int32 → Option Value := fun r => some (.int r)
def fh_vL : Int64 → Option Value := fun r => some (.long r)
def fh_vU : Unit → Option Value := fun _ => none
def fh_vR (E : fh_E) : Option Nat → Option Value := fun o => some (va_rf (o.map (fh_ad E)))
def fh_vS (E : fh_E) : Nat → Option Value := fun i => some (.ref (fh_aK E i))
/-! ===== what stands outside: the table of kinds, the String constants, the nest's links ===== -/
def fh_txt : List (List Int32) := [[100, 105, 97, 108], [108, 97, 116, 101], [116, 119, 105, 110], [98, 97, 99, 107], [112, 114, 111, 117, 100], [104, 97, 108, 102], [108, 97, 116, 101, 114], [109, 97, 115, 116, 101, 114], [115, 104, 111, 119, 115], [102, 111, 108, 108, 111, 119, 115], [103, 111, 101, 115], [109, 111, 115, 115], [115, 116, 111, 112, 112, 101, 100], [100, 105, 97, 108], [108, 97, 116, 101], [116, 119, 105, 110], [98, 97, 99, 107], [112, 114, 111, 117, 100], [104, 97, 108, 102], [108, 97, 116, 101, 114], [109, 97, 115, 116, 101, 114], [115, 104, 111, 119, 115], [102, 111, 108, 108, 111, 119, 115], [103, 111, 101, 115], [109, 111, 115, 115], [115, 116, 111, 112, 112, 101, 100]]
def fh_tx (i : Nat) : List Int32 := fh_txt.getD i []
def fh_sl (i : Nat) : Nat := (fh_tx i).length
def fh_so : List (String × Nat × String) := [("FollowedHours$Reader", 137, "dial"), ("FollowedHours$Reader", 125, "late"), ("FollowedHours$Reader", 127, "twin"), ("FollowedHours$Reader", 129, "back"), ("FollowedHours$Reader", 131, "proud"), ("FollowedHours$Reader", 133, "half"), ("FollowedHours$Reader", 135, "later"), ("FollowedHours$Reader", 25, "master"), ("FollowedHours$Reader", 72, "shows"), ("FollowedHours$Reader", 77, "follows"), ("FollowedHours$Reader", 79, "goes"), ("FollowedHours$Reader", 84, "moss"), ("FollowedHours$Reader", 89, "stopped"), ("FollowedHoursModel", 30, "dial"), ("FollowedHoursModel", 32, "late"), ("FollowedHoursModel", 34, "twin"), ("FollowedHoursModel", 36, "back"), ("FollowedHoursModel", 38, "proud"), ("FollowedHoursModel", 40, "half"), ("FollowedHoursModel", 42, "later"), ("FollowedHoursModel", 300, "master"), ("FollowedHoursModel", 280, "shows"), ("FollowedHoursModel", 285, "follows"), ("FollowedHoursModel", 287, "goes"), ("FollowedHoursModel", 292, "moss"), ("FollowedHoursModel", 294, "stopped")]
def fh_nest : List Cond := [(Jvm.Cond.methodLinkNest "FollowedHours" (24 : Nat) ({ cls := "FollowedHours$Tape", name := "<init>", desc := "()V" } : Jvm.MethodName) "FollowedHours"), (Jvm.Cond.methodLinkNest "FollowedHours" (44 : Nat) ({ cls := "FollowedHours$Sheet", name := "<init>", desc := "()V" } : Jvm.MethodName) "FollowedHours"), (Jvm.Cond.methodLinkNest "FollowedHours$Garden" (61 : Nat) ({ cls := "FollowedHours", name := "isKind", desc := "(I)Z" } : Jvm.MethodName) "FollowedHours"), (Jvm.Cond.methodLinkNest "FollowedHours$Garden" (65 : Nat) ({ cls := "FollowedHours", name := "isHour", desc := "(I)Z" } : Jvm.MethodName) "FollowedHours"), (Jvm.Cond.methodLinkNest "FollowedHours$Garden" (71 : Nat) ({ cls := "FollowedHours", name := "isWithin", desc := "(III)Z" } : Jvm.MethodName) "FollowedHours"), (Jvm.Cond.methodLinkNest "FollowedHours$Garden" (75 : Nat) ({ cls := "FollowedHours", name := "roundHour", desc := "(I)I" } : Jvm.MethodName) "FollowedHours"), (Jvm.Cond.methodLinkNest "FollowedHours$Garden" (125 : Nat) ({ cls := "FollowedHours", name := "lowestOf", desc := "(I)I" } : Jvm.MethodName) "FollowedHours"), (Jvm.Cond.methodLinkNest "FollowedHours$Garden" (128 : Nat) ({ cls := "FollowedHours", name := "isIn", desc := "(II)Z" } : Jvm.MethodName) "FollowedHours"), (Jvm.Cond.fieldLinkNest "FollowedHours$Reader" (118 : Nat) "FollowedHours" "UPPER_KIND" "[I" "FollowedHours")]
def fh_Str (E : fh_E) (U : State) (i : Nat) : Prop := va_O "java/lang/String" (fh_aK E i) (fh_A E) U U.heap ∧ va_OF "java/lang/String" "coder" "B" (.int 0) (fh_aK E i) (fh_A E) U U.heap ∧ va_OF "java/lang/String" "value" "[B" (.ref (fh_aV E i)) (fh_aK E i) (fh_A E) U U.heap ∧ va_T .byte (fh_aV E i) (fh_sl i) (fun j => .int ((fh_tx i).getD j 0)) (fh_A E) U U.heap
def fh_X (E : fh_E) (U : State) : Prop :=
  va_Z "FollowedHours" "UPPER_KIND" "[I" (.ref (fh_tu E)) (fh_A E) U U.heap ∧ va_T .int (fh_tu E) 7 (fun j => .int (fh_uk.getD j 0)) (fh_A E) U U.heap ∧
  va_Z "java/lang/String" "COMPACT_STRINGS" "Z" (.int 1) (fh_A E) U U.heap ∧ va_Zq "jdk/internal/util/Preconditions" "SIOOBE_FORMATTER" "Ljava/util/function/BiFunction;" (fh_A E) U U.heap ∧
  (∀ i, i < 26 → fh_Str E U i) ∧ (∀ (i : Nat) (q : String × Nat × String), fh_so[i]? = some q → vk_R q.1 q.2.1 q.2.2 (fh_aK E i) U) ∧ ∀ w ∈ fh_nest, va_Nw w U
theorem fh_nest_warm {s U : State} (hW : s.WarmedH U.vm) (h : ∀ w ∈ fh_nest, va_Nw w s) : ∀ w ∈ fh_nest, va_Nw w U := by
  intro w hw
  have hs := h w hw
  simp only [fh_nest, List.mem_cons, List.not_mem_nil, or_false] at hw
  rcases hw with rfl | rfl | rfl | rfl | rfl | rfl | rfl | rfl | rfl
  all_goals first | exact va_Nw.warmM hW hs | exact va_Nw.warmF hW hs
theorem fh_X_go {E : fh_E} {s U : State} {H : Heap} {locs : List Loc} (h : fh_X E s) (hS : va_S (fh_A E) s.heap H locs) (hH : U.heap = H) (hW : s.WarmedH U.vm) : fh_X E U := by
  obtain ⟨h1, h2, h3, h4, h5, h6, h7⟩ := h
  have hk := hS.2.1
  have hal := hW.alike
  unfold fh_X fh_Str
  rw [hH]
  exact ⟨(h1.kept hk).moved hal, (h2.kept hk).moved hal, (h3.kept hk).moved hal, (h4.kept hk).moved hal, fun i hi => ⟨((h5 i hi).1.kept hk).moved hal, ((h5 i hi).2.1.kept hk).moved hal, ((h5 i hi).2.2.1.kept hk).moved hal, ((h5 i hi).2.2.2.kept hk).moved hal⟩, fun i q hq => (h6 i q hq).warm hW, fh_nest_warm hW h7⟩
def fh_ty (E : fh_E) : List (ClassId × FieldType) := [(fh_cI E, .int), (fh_cS E, .object RX2), (fh_cT E, .object "java/lang/String")]
def fh_Wd (E : fh_E) (σ : fh_S) (U : State) : Prop := va_P (fh_D E) fh_cl (fh_ws E σ) U.heap ∧ va_K (fh_D E) fh_cl (fh_ty E) U ∧ fh_X E U
def fh_Q (E : fh_E) (v : Option Value) (σ' : fh_S) : Array Value → State → Outcome → State → Prop := fun _ st oc t => oc = .returned v ∧ va_P (fh_D E) fh_cl (fh_ws E σ') t.heap ∧ va_F (fh_A E) st t
/-! ===== Go: from here, with these locals, this stack and this store, the method ends as X says, if X says anything ===== -/
abbrev fh_M : Type := Program × Launch × Env × Room × State × MethodId × Array Value × List Frame × Method × Code × Nat × Nat × (Option Value → fh_S → State → Prop)
def fh_Cx (E : fh_E) (M : fh_M) (cc : ByteArray) (nL : Nat) (own : String) (rt : Option FieldType) (rm : Room) : Prop := match M with
  | (p, _, _, R, s, m, args, _, meth, c, cl, sl, _) => p.tables.exec = Jvm.exec ∧ c.code = cc ∧ c.maxLocals = nL ∧ s.vm.findClass own = some m.cls ∧ (∀ w ∈ fh_T, w.before args s = true) ∧ meth.locks = false ∧ meth.sig.returnType = rt ∧ R = rm ∧ va_K (fh_D E) fh_cl (fh_ty E) s ∧ fh_X E s ∧ fh_ok E ∧ cl ≤ R.cells ∧ sl ≤ R.slots
/-- the ends of a method that makes nothing -/
def fh_Rt (E : fh_E) (M : fh_M) : Prop := match M with
  | (_, _, _, _, s, _, args, below, _, _, cl, sl, Qf) => cl = 0 ∧ sl = 0 ∧ Qf = fun v σ' => MQ below (fh_Q E v σ') args s 0 0 (fh_A E)
def fh_Go {α : Type} (E : fh_E) (M : fh_M) (nL : Nat) (vw : α → Option Value) (pc : Nat) (lv : List (Nat × Value)) (st : List Value) (σ : fh_S) (X : Option (α × fh_S)) : Prop := match M with
  | (p, l, e, R, s, m, args, below, meth, c, cl, sl, Qf) => ∀ (r : α) (σ' : fh_S), X = some (r, σ') → ∀ (H : Heap) (locs : List Loc) (ls : Array Slot), va_P (fh_D E) fh_cl (fh_ws E σ) H → va_S (fh_A E) s.heap H locs → lv_has ls nL lv →
    W p l e R s m args below meth c H locs cl sl (Qf (vw r) σ') (F0 m pc ls st)
section FHGO
variable {α : Type} {E : fh_E} {M : fh_M} {cc : ByteArray} {nL : Nat} {own : String} {rt : Option FieldType} {rm : Room} {vw : α → Option Value} {pc : Nat} {lv : List (Nat × Value)} {st : List Value} {σ : fh_S} {X : Option (α × fh_S)}
theorem go_iadd (C : fh_Cx E M cc nL own rt rm) {x y : Int32} (hd : decode cc pc = .ok (.iadd, 1)) (K : fh_Go E M nL vw (pc + 1) lv (.int (x + y) :: st) σ X) : fh_Go E M nL vw pc lv (.int y :: .int x :: st) σ X := by
  obtain ⟨p, l, e, R, s, m, args, below, meth, c, cl, sl, Qf⟩ := M
  obtain ⟨hx, hb, hml, hown, hts, hlk, hr, hR, hK, hE, hok, hcl⟩ := C
  intro r σ' hX H locs ls hP hS hl
  exact lv_iadd hx hb hd (K r σ' hX H locs ls hP hS hl)
theorem go_isub (C : fh_Cx E M cc nL own rt rm) {x y : Int32} (hd : decode cc pc = .ok (.isub, 1)) (K : fh_Go E M nL vw (pc + 1) lv (.int (x - y) :: st) σ X) : fh_Go E M nL vw pc lv (.int y :: .int x :: st) σ X := by
  obtain ⟨p, l, e, R, s, m, args, below, meth, c, cl, sl, Qf⟩ := M
  obtain ⟨hx, hb, hml, hown, hts, hlk, hr, hR, hK, hE, hok, hcl⟩ := C
  intro r σ' hX H locs ls hP hS hl
  exact lv_isub hx hb hd (K r σ' hX H locs ls hP hS hl)
theorem go_imul (C : fh_Cx E M cc nL own rt rm) {x y : Int32} (hd : decode cc pc = .ok (.imul, 1)) (K : fh_Go E M nL vw (pc + 1) lv (.int (x * y) :: st) σ X) : fh_Go E M nL vw pc lv (.int y :: .int x :: st) σ X := by
  obtain ⟨p, l, e, R, s, m, args, below, meth, c, cl, sl, Qf⟩ := M
  obtain ⟨hx, hb, hml, hown, hts, hlk, hr, hR, hK, hE, hok, hcl⟩ := C
  intro r σ' hX H locs ls hP hS hl
  exact lv_imul hx hb hd (K r σ' hX H locs ls hP hS hl)
theorem go_iand (C : fh_Cx E M cc nL own rt rm) {x y : Int32} (hd : decode cc pc = .ok (.iand, 1)) (K : fh_Go E M nL vw (pc + 1) lv (.int (x &&& y) :: st) σ X) : fh_Go E M nL vw pc lv (.int y :: .int x :: st) σ X := by
  obtain ⟨p, l, e, R, s, m, args, below, meth, c, cl, sl, Qf⟩ := M
  obtain ⟨hx, hb, hml, hown, hts, hlk, hr, hR, hK, hE, hok, hcl⟩ := C
  intro r σ' hX H locs ls hP hS hl
  exact lv_iand hx hb hd (K r σ' hX H locs ls hP hS hl)
theorem go_ior (C : fh_Cx E M cc nL own rt rm) {x y : Int32} (hd : decode cc pc = .ok (.ior, 1)) (K : fh_Go E M nL vw (pc + 1) lv (.int (x ||| y) :: st) σ X) : fh_Go E M nL vw pc lv (.int y :: .int x :: st) σ X := by
  obtain ⟨p, l, e, R, s, m, args, below, meth, c, cl, sl, Qf⟩ := M
  obtain ⟨hx, hb, hml, hown, hts, hlk, hr, hR, hK, hE, hok, hcl⟩ := C
  intro r σ' hX H locs ls hP hS hl
  exact lv_ior hx hb hd (K r σ' hX H locs ls hP hS hl)
theorem go_ixor (C : fh_Cx E M cc nL own rt rm) {x y : Int32} (hd : decode cc pc = .ok (.ixor, 1)) (K : fh_Go E M nL vw (pc + 1) lv (.int (x ^^^ y) :: st) σ X) : fh_Go E M nL vw pc lv (.int y :: .int x :: st) σ X := by
  obtain ⟨p, l, e, R, s, m, args, below, meth, c, cl, sl, Qf⟩ := M
  obtain ⟨hx, hb, hml, hown, hts, hlk, hr, hR, hK, hE, hok, hcl⟩ := C
  intro r σ' hX H locs ls hP hS hl
  exact lv_ixor hx hb hd (K r σ' hX H locs ls hP hS hl)
theorem go_ishl (C : fh_Cx E M cc nL own rt rm) {x y : Int32} (hd : decode cc pc = .ok (.ishl, 1)) (K : fh_Go E M nL vw (pc + 1) lv (.int (x <<< (y &&& 31)) :: st) σ X) : fh_Go E M nL vw pc lv (.int y :: .int x :: st) σ X := by
  obtain ⟨p, l, e, R, s, m, args, below, meth, c, cl, sl, Qf⟩ := M
  obtain ⟨hx, hb, hml, hown, hts, hlk, hr, hR, hK, hE, hok, hcl⟩ := C
  intro r σ' hX H locs ls hP hS hl
  exact lv_ishl hx hb hd (K r σ' hX H locs ls hP hS hl)
theorem go_ishr (C : fh_Cx E M cc nL own rt rm) {x y : Int32} (hd : decode cc pc = .ok (.ishr, 1)) (K : fh_Go E M nL vw (pc + 1) lv (.int (x >>> (y &&& 31)) :: st) σ X) : fh_Go E M nL vw pc lv (.int y :: .int x :: st) σ X := by
  obtain ⟨p, l, e, R, s, m, args, below, meth, c, cl, sl, Qf⟩ := M
  obtain ⟨hx, hb, hml, hown, hts, hlk, hr, hR, hK, hE, hok, hcl⟩ := C
  intro r σ' hX H locs ls hP hS hl
  exact lv_ishr hx hb hd (K r σ' hX H locs ls hP hS hl)
theorem go_iushr (C : fh_Cx E M cc nL own rt rm) {x y : Int32} (hd : decode cc pc = .ok (.iushr, 1)) (K : fh_Go E M nL vw (pc + 1) lv (.int ((x.toUInt32 >>> (y.toUInt32 &&& Int32.toUInt32 31)).toInt32) :: st) σ X) : fh_Go E M nL vw pc lv (.int y :: .int x :: st) σ X := by
  obtain ⟨p, l, e, R, s, m, args, below, meth, c, cl, sl, Qf⟩ := M
  obtain ⟨hx, hb, hml, hown, hts, hlk, hr, hR, hK, hE, hok, hcl⟩ := C
  intro r σ' hX H locs ls hP hS hl
  exact lv_iushr hx hb hd rfl (K r σ' hX H locs ls hP hS hl)
theorem go_idiv (C : fh_Cx E M cc nL own rt rm) {x y : Int32} (hd : decode cc pc = .ok (.idiv, 1)) (hne : ¬ y = 0) (K : fh_Go E M nL vw (pc + 1) lv (.int (x / y) :: st) σ X) : fh_Go E M nL vw pc lv (.int y :: .int x :: st) σ X := by
  obtain ⟨p, l, e, R, s, m, args, below, meth, c, cl, sl, Qf⟩ := M
  obtain ⟨hx, hb, hml, hown, hts, hlk, hr, hR, hK, hE, hok, hcl⟩ := C
  intro r σ' hX H locs ls hP hS hl
  exact lv_idiv hx hb hd hne (K r σ' hX H locs ls hP hS hl)
theorem go_irem (C : fh_Cx E M cc nL own rt rm) {x y : Int32} (hd : decode cc pc = .ok (.irem, 1)) (hne : ¬ y = 0) (K : fh_Go E M nL vw (pc + 1) lv (.int (x - x / y * y) :: st) σ X) : fh_Go E M nL vw pc lv (.int y :: .int x :: st) σ X := by
  obtain ⟨p, l, e, R, s, m, args, below, meth, c, cl, sl, Qf⟩ := M
  obtain ⟨hx, hb, hml, hown, hts, hlk, hr, hR, hK, hE, hok, hcl⟩ := C
  intro r σ' hX H locs ls hP hS hl
  exact lv_irem hx hb hd hne (K r σ' hX H locs ls hP hS hl)
theorem go_ineg (C : fh_Cx E M cc nL own rt rm) {x : Int32} (hd : decode cc pc = .ok (.ineg, 1)) (K : fh_Go E M nL vw (pc + 1) lv (.int (-x) :: st) σ X) : fh_Go E M nL vw pc lv (.int x :: st) σ X := by
  obtain ⟨p, l, e, R, s, m, args, below, meth, c, cl, sl, Qf⟩ := M
  obtain ⟨hx, hb, hml, hown, hts, hlk, hr, hR, hK, hE, hok, hcl⟩ := C
  intro r σ' hX H locs ls hP hS hl
  exact lv_ineg hx hb hd (K r σ' hX H locs ls hP hS hl)
theorem go_i2b (C : fh_Cx E M cc nL own rt rm) {x : Int32} (hd : decode cc pc = .ok (.i2b, 1)) (K : fh_Go E M nL vw (pc + 1) lv (.int (x.toInt8.toInt32) :: st) σ X) : fh_Go E M nL vw pc lv (.int x :: st) σ X := by
  obtain ⟨p, l, e, R, s, m, args, below, meth, c, cl, sl, Qf⟩ := M
  obtain ⟨hx, hb, hml, hown, hts, hlk, hr, hR, hK, hE, hok, hcl⟩ := C
  intro r σ' hX H locs ls hP hS hl
  exact lv_i2b hx hb hd rfl (K r σ' hX H locs ls hP hS hl)
theorem go_i2s (C : fh_Cx E M cc nL own rt rm) {x : Int32} (hd : decode cc pc = .ok (.i2s, 1)) (K : fh_Go E M nL vw (pc + 1) lv (.int (x.toInt16.toInt32) :: st) σ X) : fh_Go E M nL vw pc lv (.int x :: st) σ X := by
  obtain ⟨p, l, e, R, s, m, args, below, meth, c, cl, sl, Qf⟩ := M
  obtain ⟨hx, hb, hml, hown, hts, hlk, hr, hR, hK, hE, hok, hcl⟩ := C
  intro r σ' hX H locs ls hP hS hl
  exact lv_i2s hx hb hd rfl (K r σ' hX H locs ls hP hS hl)
theorem go_i2c (C : fh_Cx E M cc nL own rt rm) {x : Int32} (hd : decode cc pc = .ok (.i2c, 1)) (K : fh_Go E M nL vw (pc + 1) lv (.int ((x.toUInt32 % 65536).toInt32) :: st) σ X) : fh_Go E M nL vw pc lv (.int x :: st) σ X := by
  obtain ⟨p, l, e, R, s, m, args, below, meth, c, cl, sl, Qf⟩ := M
  obtain ⟨hx, hb, hml, hown, hts, hlk, hr, hR, hK, hE, hok, hcl⟩ := C
  intro r σ' hX H locs ls hP hS hl
  exact lv_i2c hx hb hd rfl (K r σ' hX H locs ls hP hS hl)
theorem go_i2l (C : fh_Cx E M cc nL own rt rm) {x : Int32} (hd : decode cc pc = .ok (.i2l, 1)) (K : fh_Go E M nL vw (pc + 1) lv (.long (x.toInt64) :: st) σ X) : fh_Go E M nL vw pc lv (.int x :: st) σ X := by
  obtain ⟨p, l, e, R, s, m, args, below, meth, c, cl, sl, Qf⟩ := M
  obtain ⟨hx, hb, hml, hown, hts, hlk, hr, hR, hK, hE, hok, hcl⟩ := C
  intro r σ' hX H locs ls hP hS hl
  exact lv_i2l hx hb hd rfl (K r σ' hX H locs ls hP hS hl)
theorem go_ladd (C : fh_Cx E M cc nL own rt rm) {x y : Int64} (hd : decode cc pc = .ok (.ladd, 1)) (K : fh_Go E M nL vw (pc + 1) lv (.long (x + y) :: st) σ X) : fh_Go E M nL vw pc lv (.long y :: .long x :: st) σ X := by
  obtain ⟨p, l, e, R, s, m, args, below, meth, c, cl, sl, Qf⟩ := M
  obtain ⟨hx, hb, hml, hown, hts, hlk, hr, hR, hK, hE, hok, hcl⟩ := C
  intro r σ' hX H locs ls hP hS hl
  exact lv_ladd hx hb hd (K r σ' hX H locs ls hP hS hl)
theorem go_lmul (C : fh_Cx E M cc nL own rt rm) {x y : Int64} (hd : decode cc pc = .ok (.lmul, 1)) (K : fh_Go E M nL vw (pc + 1) lv (.long (x * y) :: st) σ X) : fh_Go E M nL vw pc lv (.long y :: .long x :: st) σ X := by
  obtain ⟨p, l, e, R, s, m, args, below, meth, c, cl, sl, Qf⟩ := M
  obtain ⟨hx, hb, hml, hown, hts, hlk, hr, hR, hK, hE, hok, hcl⟩ := C
  intro r σ' hX H locs ls hP hS hl
  exact lv_lmul hx hb hd (K r σ' hX H locs ls hP hS hl)
theorem go_lcmp (C : fh_Cx E M cc nL own rt rm) {x y : Int64} (hd : decode cc pc = .ok (.lcmp, 1)) (K : fh_Go E M nL vw (pc + 1) lv (.int (lg_cmp x y) :: st) σ X) : fh_Go E M nL vw pc lv (.long y :: .long x :: st) σ X := by
  obtain ⟨p, l, e, R, s, m, args, below, meth, c, cl, sl, Qf⟩ := M
  obtain ⟨hx, hb, hml, hown, hts, hlk, hr, hR, hK, hE, hok, hcl⟩ := C
  intro r σ' hX H locs ls hP hS hl
  exact W.lcmp hx hb hd (K r σ' hX H locs ls hP hS hl)
theorem go_iconst (C : fh_Cx E M cc nL own rt rm) {n : Int} (v : Int32) (hd : decode cc pc = .ok (.iconst n, 1)) (hv : Int32.ofInt n = v) (K : fh_Go E M nL vw (pc + 1) lv (.int v :: st) σ X) : fh_Go E M nL vw pc lv (st) σ X := by
  obtain ⟨p, l, e, R, s, m, args, below, meth, c, cl, sl, Qf⟩ := M
  obtain ⟨hx, hb, hml, hown, hts, hlk, hr, hR, hK, hE, hok, hcl⟩ := C
  intro r σ' hX H locs ls hP hS hl
  exact lv_iconst hx hb hd hv (K r σ' hX H locs ls hP hS hl)
theorem go_bipush (C : fh_Cx E M cc nL own rt rm) {n : Int} (v : Int32) (hd : decode cc pc = .ok (.bipush n, 2)) (hv : (Int8.ofInt n).toInt32 = v) (K : fh_Go E M nL vw (pc + 2) lv (.int v :: st) σ X) : fh_Go E M nL vw pc lv (st) σ X := by
  obtain ⟨p, l, e, R, s, m, args, below, meth, c, cl, sl, Qf⟩ := M
  obtain ⟨hx, hb, hml, hown, hts, hlk, hr, hR, hK, hE, hok, hcl⟩ := C
  intro r σ' hX H locs ls hP hS hl
  exact lv_bipush hx hb hd hv (K r σ' hX H locs ls hP hS hl)
theorem go_sipush (C : fh_Cx E M cc nL own rt rm) {n : Int} (v : Int32) (hd : decode cc pc = .ok (.sipush n, 3)) (hv : (Int16.ofInt n).toInt32 = v) (K : fh_Go E M nL vw (pc + 3) lv (.int v :: st) σ X) : fh_Go E M nL vw pc lv (st) σ X := by
  obtain ⟨p, l, e, R, s, m, args, below, meth, c, cl, sl, Qf⟩ := M
  obtain ⟨hx, hb, hml, hown, hts, hlk, hr, hR, hK, hE, hok, hcl⟩ := C
  intro r σ' hX H locs ls hP hS hl
  exact lv_sipush hx hb hd hv (K r σ' hX H locs ls hP hS hl)
theorem go_lconst (C : fh_Cx E M cc nL own rt rm) {n : Fin 2} (v : Int64) (hd : decode cc pc = .ok (.lconst n, 1)) (hv : Int64.ofNat (n : Nat) = v) (K : fh_Go E M nL vw (pc + 1) lv (.long v :: st) σ X) : fh_Go E M nL vw pc lv (st) σ X := by
  obtain ⟨p, l, e, R, s, m, args, below, meth, c, cl, sl, Qf⟩ := M
  obtain ⟨hx, hb, hml, hown, hts, hlk, hr, hR, hK, hE, hok, hcl⟩ := C
  intro r σ' hX H locs ls hP hS hl
  exact lv_lconst hx hb hd hv (K r σ' hX H locs ls hP hS hl)
theorem go_ldc (C : fh_Cx E M cc nL own rt rm) {idx : Nat} {v : Int32} (hc : Cond.constant own idx v ∈ fh_T) (hd : decode cc pc = .ok (.ldc idx, 2)) (K : fh_Go E M nL vw (pc + 2) lv (.int v :: st) σ X) : fh_Go E M nL vw pc lv (st) σ X := by
  obtain ⟨p, l, e, R, s, m, args, below, meth, c, cl, sl, Qf⟩ := M
  obtain ⟨hx, hb, hml, hown, hts, hlk, hr, hR, hK, hE, hok, hcl⟩ := C
  intro r σ' hX H locs ls hP hS hl
  exact lv_ldc hx hb hown (hts _ hc) hd (K r σ' hX H locs ls hP hS hl)
theorem go_ldcw (C : fh_Cx E M cc nL own rt rm) {idx : Nat} {v : Int32} (hc : Cond.constant own idx v ∈ fh_T) (hd : decode cc pc = .ok (.ldc_w idx, 3)) (K : fh_Go E M nL vw (pc + 3) lv (.int v :: st) σ X) : fh_Go E M nL vw pc lv (st) σ X := by
  obtain ⟨p, l, e, R, s, m, args, below, meth, c, cl, sl, Qf⟩ := M
  obtain ⟨hx, hb, hml, hown, hts, hlk, hr, hR, hK, hE, hok, hcl⟩ := C
  intro r σ' hX H locs ls hP hS hl
  exact lv_ldcw hx hb hown (hts _ hc) hd (K r σ' hX H locs ls hP hS hl)
theorem go_iload_n (C : fh_Cx E M cc nL own rt rm) {k : Fin 4} {x : Int32} (j : Nat) {i : Nat} (hj : lv[j]? = some (i, .int x)) (hk : (k : Nat) = i) (hd : decode cc pc = .ok (.iload_n k, 1)) (K : fh_Go E M nL vw (pc + 1) lv (.int x :: st) σ X) : fh_Go E M nL vw pc lv (st) σ X := by
  obtain ⟨p, l, e, R, s, m, args, below, meth, c, cl, sl, Qf⟩ := M
  obtain ⟨hx, hb, hml, hown, hts, hlk, hr, hR, hK, hE, hok, hcl⟩ := C
  intro r σ' hX H locs ls hP hS hl
  exact lv_iload_n hx hb hd hk (lv_at hl j hj) (K r σ' hX H locs ls hP hS hl)
theorem go_iload (C : fh_Cx E M cc nL own rt rm) {x : Int32} (j : Nat) {i : Nat} (hj : lv[j]? = some (i, .int x)) (hd : decode cc pc = .ok (.iload i, 2)) (K : fh_Go E M nL vw (pc + 2) lv (.int x :: st) σ X) : fh_Go E M nL vw pc lv (st) σ X := by
  obtain ⟨p, l, e, R, s, m, args, below, meth, c, cl, sl, Qf⟩ := M
  obtain ⟨hx, hb, hml, hown, hts, hlk, hr, hR, hK, hE, hok, hcl⟩ := C
  intro r σ' hX H locs ls hP hS hl
  exact lv_iload hx hb hd (lv_at hl j hj) (K r σ' hX H locs ls hP hS hl)
theorem go_istore_n (C : fh_Cx E M cc nL own rt rm) {k : Fin 4} {x : Int32} {i : Nat} (lv' : List (Nat × Value)) (hlv : (i, Value.int x) :: lv.filter (fun q => !(q.1 == i) && !(q.1 + 1 == i && q.2.category == 2)) = lv') (hk : (k : Nat) = i) (hi : i < nL) (hd : decode cc pc = .ok (.istore_n k, 1)) (K : fh_Go E M nL vw (pc + 1) lv' st σ X) : fh_Go E M nL vw pc lv (.int x :: st) σ X := by
  obtain ⟨p, l, e, R, s, m, args, below, meth, c, cl, sl, Qf⟩ := M
  obtain ⟨hx, hb, hml, hown, hts, hlk, hr, hR, hK, hE, hok, hcl⟩ := C
  intro r σ' hX H locs ls hP hS hl
  exact lv_istore_n hx hb hd hk hl hi hlv (fun ls' hl' => K r σ' hX H locs ls' hP hS hl')
theorem go_istore (C : fh_Cx E M cc nL own rt rm) {x : Int32} {i : Nat} (lv' : List (Nat × Value)) (hlv : (i, Value.int x) :: lv.filter (fun q => !(q.1 == i) && !(q.1 + 1 == i && q.2.category == 2)) = lv') (hi : i < nL) (hd : decode cc pc = .ok (.istore i, 2)) (K : fh_Go E M nL vw (pc + 2) lv' st σ X) : fh_Go E M nL vw pc lv (.int x :: st) σ X := by
  obtain ⟨p, l, e, R, s, m, args, below, meth, c, cl, sl, Qf⟩ := M
  obtain ⟨hx, hb, hml, hown, hts, hlk, hr, hR, hK, hE, hok, hcl⟩ := C
  intro r σ' hX H locs ls hP hS hl
  exact lv_istore hx hb hd hl hi hlv (fun ls' hl' => K r σ' hX H locs ls' hP hS hl')
theorem go_lload_n (C : fh_Cx E M cc nL own rt rm) {k : Fin 4} {x : Int64} (j : Nat) {i : Nat} (hj : lv[j]? = some (i, .long x)) (hk : (k : Nat) = i) (hd : decode cc pc = .ok (.lload_n k, 1)) (K : fh_Go E M nL vw (pc + 1) lv (.long x :: st) σ X) : fh_Go E M nL vw pc lv (st) σ X := by
  obtain ⟨p, l, e, R, s, m, args, below, meth, c, cl, sl, Qf⟩ := M
  obtain ⟨hx, hb, hml, hown, hts, hlk, hr, hR, hK, hE, hok, hcl⟩ := C
  intro r σ' hX H locs ls hP hS hl
  exact lv_lload_n hx hb hd hk (lv_at hl j hj) (K r σ' hX H locs ls hP hS hl)
theorem go_lload (C : fh_Cx E M cc nL own rt rm) {x : Int64} (j : Nat) {i : Nat} (hj : lv[j]? = some (i, .long x)) (hd : decode cc pc = .ok (.lload i, 2)) (K : fh_Go E M nL vw (pc + 2) lv (.long x :: st) σ X) : fh_Go E M nL vw pc lv (st) σ X := by
  obtain ⟨p, l, e, R, s, m, args, below, meth, c, cl, sl, Qf⟩ := M
  obtain ⟨hx, hb, hml, hown, hts, hlk, hr, hR, hK, hE, hok, hcl⟩ := C
  intro r σ' hX H locs ls hP hS hl
  exact lv_lload hx hb hd (lv_at hl j hj) (K r σ' hX H locs ls hP hS hl)
theorem go_lstore_n (C : fh_Cx E M cc nL own rt rm) {k : Fin 4} {x : Int64} {i : Nat} (lv' : List (Nat × Value)) (hlv : (i, Value.long x) :: lv.filter (fun q => !(q.1 == i) && (!(q.1 == i + 1) && !(q.1 + 1 == i && q.2.category == 2))) = lv') (hk : (k : Nat) = i) (hi : i + 1 < nL) (hd : decode cc pc = .ok (.lstore_n k, 1)) (K : fh_Go E M nL vw (pc + 1) lv' st σ X) : fh_Go E M nL vw pc lv (.long x :: st) σ X := by
  obtain ⟨p, l, e, R, s, m, args, below, meth, c, cl, sl, Qf⟩ := M
  obtain ⟨hx, hb, hml, hown, hts, hlk, hr, hR, hK, hE, hok, hcl⟩ := C
  intro r σ' hX H locs ls hP hS hl
  exact lv_lstore_n hx hb hd hk hl hi hlv (fun ls' hl' => K r σ' hX H locs ls' hP hS hl')
theorem go_lstore (C : fh_Cx E M cc nL own rt rm) {x : Int64} {i : Nat} (lv' : List (Nat × Value)) (hlv : (i, Value.long x) :: lv.filter (fun q => !(q.1 == i) && (!(q.1 == i + 1) && !(q.1 + 1 == i && q.2.category == 2))) = lv') (hi : i + 1 < nL) (hd : decode cc pc = .ok (.lstore i, 2)) (K : fh_Go E M nL vw (pc + 2) lv' st σ X) : fh_Go E M nL vw pc lv (.long x :: st) σ X := by
  obtain ⟨p, l, e, R, s, m, args, below, meth, c, cl, sl, Qf⟩ := M
  obtain ⟨hx, hb, hml, hown, hts, hlk, hr, hR, hK, hE, hok, hcl⟩ := C
  intro r σ' hX H locs ls hP hS hl
  exact lv_lstore hx hb hd hl hi hlv (fun ls' hl' => K r σ' hX H locs ls' hP hS hl')
theorem go_aload_n (C : fh_Cx E M cc nL own rt rm) {k : Fin 4} {x : Nat} (j : Nat) {i : Nat} (hj : lv[j]? = some (i, .ref x)) (hk : (k : Nat) = i) (hd : decode cc pc = .ok (.aload_n k, 1)) (K : fh_Go E M nL vw (pc + 1) lv (.ref x :: st) σ X) : fh_Go E M nL vw pc lv (st) σ X := by
  obtain ⟨p, l, e, R, s, m, args, below, meth, c, cl, sl, Qf⟩ := M
  obtain ⟨hx, hb, hml, hown, hts, hlk, hr, hR, hK, hE, hok, hcl⟩ := C
  intro r σ' hX H locs ls hP hS hl
  exact lv_aload_n hx hb hd hk (lv_at hl j hj) (K r σ' hX H locs ls hP hS hl)
theorem go_aload (C : fh_Cx E M cc nL own rt rm) {x : Nat} (j : Nat) {i : Nat} (hj : lv[j]? = some (i, .ref x)) (hd : decode cc pc = .ok (.aload i, 2)) (K : fh_Go E M nL vw (pc + 2) lv (.ref x :: st) σ X) : fh_Go E M nL vw pc lv (st) σ X := by
  obtain ⟨p, l, e, R, s, m, args, below, meth, c, cl, sl, Qf⟩ := M
  obtain ⟨hx, hb, hml, hown, hts, hlk, hr, hR, hK, hE, hok, hcl⟩ := C
  intro r σ' hX H locs ls hP hS hl
  exact lv_aload hx hb hd (lv_at hl j hj) (K r σ' hX H locs ls hP hS hl)
theorem go_astore_n (C : fh_Cx E M cc nL own rt rm) {k : Fin 4} {x : Nat} {i : Nat} (lv' : List (Nat × Value)) (hlv : (i, Value.ref x) :: lv.filter (fun q => !(q.1 == i) && !(q.1 + 1 == i && q.2.category == 2)) = lv') (hk : (k : Nat) = i) (hi : i < nL) (hd : decode cc pc = .ok (.astore_n k, 1)) (K : fh_Go E M nL vw (pc + 1) lv' st σ X) : fh_Go E M nL vw pc lv (.ref x :: st) σ X := by
  obtain ⟨p, l, e, R, s, m, args, below, meth, c, cl, sl, Qf⟩ := M
  obtain ⟨hx, hb, hml, hown, hts, hlk, hr, hR, hK, hE, hok, hcl⟩ := C
  intro r σ' hX H locs ls hP hS hl
  exact lv_astore_n hx hb hd hk hl hi hlv (fun ls' hl' => K r σ' hX H locs ls' hP hS hl')
theorem go_astore (C : fh_Cx E M cc nL own rt rm) {x : Nat} {i : Nat} (lv' : List (Nat × Value)) (hlv : (i, Value.ref x) :: lv.filter (fun q => !(q.1 == i) && !(q.1 + 1 == i && q.2.category == 2)) = lv') (hi : i < nL) (hd : decode cc pc = .ok (.astore i, 2)) (K : fh_Go E M nL vw (pc + 2) lv' st σ X) : fh_Go E M nL vw pc lv (.ref x :: st) σ X := by
  obtain ⟨p, l, e, R, s, m, args, below, meth, c, cl, sl, Qf⟩ := M
  obtain ⟨hx, hb, hml, hown, hts, hlk, hr, hR, hK, hE, hok, hcl⟩ := C
  intro r σ' hX H locs ls hP hS hl
  exact lv_astore hx hb hd hl hi hlv (fun ls' hl' => K r σ' hX H locs ls' hP hS hl')
theorem go_iinc (C : fh_Cx E M cc nL own rt rm) {n : Int} {x : Int32} (v : Int32) (j : Nat) {i : Nat} (lv' : List (Nat × Value)) (hj : lv[j]? = some (i, .int x)) (hv : x + Int32.ofInt n = v) (hlv : (i, Value.int v) :: lv.filter (fun q => !(q.1 == i) && !(q.1 + 1 == i && q.2.category == 2)) = lv') (hi : i < nL) (hd : decode cc pc = .ok (.iinc i n, 3)) (K : fh_Go E M nL vw (pc + 3) lv' st σ X) : fh_Go E M nL vw pc lv st σ X := by
  obtain ⟨p, l, e, R, s, m, args, below, meth, c, cl, sl, Qf⟩ := M
  obtain ⟨hx, hb, hml, hown, hts, hlk, hr, hR, hK, hE, hok, hcl⟩ := C
  intro r σ' hX H locs ls hP hS hl
  exact lv_iinc hx hb hd hl hj hv hi hlv (fun ls' hl' => K r σ' hX H locs ls' hP hS hl')
theorem go_astore_nN (C : fh_Cx E M cc nL own rt rm) {k : Fin 4} {i : Nat} (lv' : List (Nat × Value)) (hlv : (i, Value.null) :: lv.filter (fun q => !(q.1 == i) && !(q.1 + 1 == i && q.2.category == 2)) = lv') (hk : (k : Nat) = i) (hi : i < nL) (hd : decode cc pc = .ok (.astore_n k, 1)) (K : fh_Go E M nL vw (pc + 1) lv' st σ X) : fh_Go E M nL vw pc lv (.null :: st) σ X := by
  obtain ⟨p, l, e, R, s, m, args, below, meth, c, cl, sl, Qf⟩ := M
  obtain ⟨hx, hb, hml, hown, hts, hlk, hr, hR, hK, hE, hok, hcl⟩ := C
  intro r σ' hX H locs ls hP hS hl
  exact lv_astore_nN hx hb hd hk hl hi hlv (fun ls' hl' => K r σ' hX H locs ls' hP hS hl')
theorem go_astoreN (C : fh_Cx E M cc nL own rt rm) {i : Nat} (lv' : List (Nat × Value)) (hlv : (i, Value.null) :: lv.filter (fun q => !(q.1 == i) && !(q.1 + 1 == i && q.2.category == 2)) = lv') (hi : i < nL) (hd : decode cc pc = .ok (.astore i, 2)) (K : fh_Go E M nL vw (pc + 2) lv' st σ X) : fh_Go E M nL vw pc lv (.null :: st) σ X := by
  obtain ⟨p, l, e, R, s, m, args, below, meth, c, cl, sl, Qf⟩ := M
  obtain ⟨hx, hb, hml, hown, hts, hlk, hr, hR, hK, hE, hok, hcl⟩ := C
  intro r σ' hX H locs ls hP hS hl
  exact lv_astoreN hx hb hd hl hi hlv (fun ls' hl' => K r σ' hX H locs ls' hP hS hl')
theorem go_aload_nN (C : fh_Cx E M cc nL own rt rm) {k : Fin 4} (j : Nat) {i : Nat} (hj : lv[j]? = some (i, .null)) (hk : (k : Nat) = i) (hd : decode cc pc = .ok (.aload_n k, 1)) (K : fh_Go E M nL vw (pc + 1) lv (.null :: st) σ X) : fh_Go E M nL vw pc lv (st) σ X := by
  obtain ⟨p, l, e, R, s, m, args, below, meth, c, cl, sl, Qf⟩ := M
  obtain ⟨hx, hb, hml, hown, hts, hlk, hr, hR, hK, hE, hok, hcl⟩ := C
  intro r σ' hX H locs ls hP hS hl
  exact lv_aload_nN hx hb hd hk (lv_at hl j hj) (K r σ' hX H locs ls hP hS hl)
theorem go_aloadN (C : fh_Cx E M cc nL own rt rm) (j : Nat) {i : Nat} (hj : lv[j]? = some (i, .null)) (hd : decode cc pc = .ok (.aload i, 2)) (K : fh_Go E M nL vw (pc + 2) lv (.null :: st) σ X) : fh_Go E M nL vw pc lv (st) σ X := by
  obtain ⟨p, l, e, R, s, m, args, below, meth, c, cl, sl, Qf⟩ := M
  obtain ⟨hx, hb, hml, hown, hts, hlk, hr, hR, hK, hE, hok, hcl⟩ := C
  intro r σ' hX H locs ls hP hS hl
  exact lv_aloadN hx hb hd (lv_at hl j hj) (K r σ' hX H locs ls hP hS hl)
theorem go_null (C : fh_Cx E M cc nL own rt rm) (hd : decode cc pc = .ok (.aconst_null, 1)) (K : fh_Go E M nL vw (pc + 1) lv (.null :: st) σ X) : fh_Go E M nL vw pc lv (st) σ X := by
  obtain ⟨p, l, e, R, s, m, args, below, meth, c, cl, sl, Qf⟩ := M
  obtain ⟨hx, hb, hml, hown, hts, hlk, hr, hR, hK, hE, hok, hcl⟩ := C
  intro r σ' hX H locs ls hP hS hl
  exact lv_null hx hb hd (K r σ' hX H locs ls hP hS hl)
theorem go_dup (C : fh_Cx E M cc nL own rt rm) {v : Value} (hv : v.category = 1) (hd : decode cc pc = .ok (.dup, 1)) (K : fh_Go E M nL vw (pc + 1) lv (v :: v :: st) σ X) : fh_Go E M nL vw pc lv (v :: st) σ X := by
  obtain ⟨p, l, e, R, s, m, args, below, meth, c, cl, sl, Qf⟩ := M
  obtain ⟨hx, hb, hml, hown, hts, hlk, hr, hR, hK, hE, hok, hcl⟩ := C
  intro r σ' hX H locs ls hP hS hl
  exact lv_dup hx hb hd hv (K r σ' hX H locs ls hP hS hl)
theorem go_dup2 (C : fh_Cx E M cc nL own rt rm) {v w : Value} (hv : v.category = 1) (hw : w.category = 1) (hd : decode cc pc = .ok (.dup2, 1)) (K : fh_Go E M nL vw (pc + 1) lv (v :: w :: v :: w :: st) σ X) : fh_Go E M nL vw pc lv (v :: w :: st) σ X := by
  obtain ⟨p, l, e, R, s, m, args, below, meth, c, cl, sl, Qf⟩ := M
  obtain ⟨hx, hb, hml, hown, hts, hlk, hr, hR, hK, hE, hok, hcl⟩ := C
  intro r σ' hX H locs ls hP hS hl
  exact lv_dup2_11 hx hb hd hv hw (K r σ' hX H locs ls hP hS hl)
theorem go_pop (C : fh_Cx E M cc nL own rt rm) {v : Value} (hv : v.category = 1) (hd : decode cc pc = .ok (.pop, 1)) (K : fh_Go E M nL vw (pc + 1) lv (st) σ X) : fh_Go E M nL vw pc lv (v :: st) σ X := by
  obtain ⟨p, l, e, R, s, m, args, below, meth, c, cl, sl, Qf⟩ := M
  obtain ⟨hx, hb, hml, hown, hts, hlk, hr, hR, hK, hE, hok, hcl⟩ := C
  intro r σ' hX H locs ls hP hS hl
  exact lv_pop hx hb hd hv (K r σ' hX H locs ls hP hS hl)
theorem go_icmp_eq {X2 : Option (α × fh_S)} (C : fh_Cx E M cc nL own rt rm) {x y : Int32} {off : Int} {tgt : Nat} (hd : decode cc pc = .ok (.if_icmp .eq off, 3)) (ht : (pc : Int) + off = (tgt : Int)) (K1 : (x = y) → fh_Go E M nL vw tgt lv st σ X) (K2 : ¬ (x = y) → fh_Go E M nL vw (pc + 3) lv st σ X2) : fh_Go E M nL vw pc lv (.int y :: .int x :: st) σ (if x = y then X else X2) := by
  obtain ⟨p, l, e, R, s, m, args, below, meth, c, cl, sl, Qf⟩ := M
  obtain ⟨hx, hb, hml, hown, hts, hlk, hr, hR, hK, hE, hok, hcl⟩ := C
  intro r σ' hX H locs ls hP hS hl
  by_cases hc : x = y
  · rw [if_pos hc] at hX
    exact lv_icmp_eq hx hb hd ht (fun h => K1 h r σ' hX H locs ls hP hS hl) (fun h => absurd hc h)
  · rw [if_neg hc] at hX
    exact lv_icmp_eq hx hb hd ht (fun h => absurd h hc) (fun h => K2 h r σ' hX H locs ls hP hS hl)
theorem go_icmp_lt {X2 : Option (α × fh_S)} (C : fh_Cx E M cc nL own rt rm) {x y : Int32} {off : Int} {tgt : Nat} (hd : decode cc pc = .ok (.if_icmp .lt off, 3)) (ht : (pc : Int) + off = (tgt : Int)) (K1 : (x < y) → fh_Go E M nL vw tgt lv st σ X) (K2 : ¬ (x < y) → fh_Go E M nL vw (pc + 3) lv st σ X2) : fh_Go E M nL vw pc lv (.int y :: .int x :: st) σ (if x < y then X else X2) := by
  obtain ⟨p, l, e, R, s, m, args, below, meth, c, cl, sl, Qf⟩ := M
  obtain ⟨hx, hb, hml, hown, hts, hlk, hr, hR, hK, hE, hok, hcl⟩ := C
  intro r σ' hX H locs ls hP hS hl
  by_cases hc : x < y
  · rw [if_pos hc] at hX
    exact lv_icmp_lt hx hb hd ht (fun h => K1 h r σ' hX H locs ls hP hS hl) (fun h => absurd hc h)
  · rw [if_neg hc] at hX
    exact lv_icmp_lt hx hb hd ht (fun h => absurd h hc) (fun h => K2 h r σ' hX H locs ls hP hS hl)
theorem go_icmp_ge {X2 : Option (α × fh_S)} (C : fh_Cx E M cc nL own rt rm) {x y : Int32} {off : Int} {tgt : Nat} (hd : decode cc pc = .ok (.if_icmp .ge off, 3)) (ht : (pc : Int) + off = (tgt : Int)) (K1 : (y ≤ x) → fh_Go E M nL vw tgt lv st σ X) (K2 : ¬ (y ≤ x) → fh_Go E M nL vw (pc + 3) lv st σ X2) : fh_Go E M nL vw pc lv (.int y :: .int x :: st) σ (if y ≤ x then X else X2) := by
  obtain ⟨p, l, e, R, s, m, args, below, meth, c, cl, sl, Qf⟩ := M
  obtain ⟨hx, hb, hml, hown, hts, hlk, hr, hR, hK, hE, hok, hcl⟩ := C
  intro r σ' hX H locs ls hP hS hl
  by_cases hc : y ≤ x
  · rw [if_pos hc] at hX
    exact lv_icmp_ge hx hb hd ht (fun h => K1 h r σ' hX H locs ls hP hS hl) (fun h => absurd hc h)
  · rw [if_neg hc] at hX
    exact lv_icmp_ge hx hb hd ht (fun h => absurd h hc) (fun h => K2 h r σ' hX H locs ls hP hS hl)
theorem go_icmp_gt {X2 : Option (α × fh_S)} (C : fh_Cx E M cc nL own rt rm) {x y : Int32} {off : Int} {tgt : Nat} (hd : decode cc pc = .ok (.if_icmp .gt off, 3)) (ht : (pc : Int) + off = (tgt : Int)) (K1 : (y < x) → fh_Go E M nL vw tgt lv st σ X) (K2 : ¬ (y < x) → fh_Go E M nL vw (pc + 3) lv st σ X2) : fh_Go E M nL vw pc lv (.int y :: .int x :: st) σ (if y < x then X else X2) := by
  obtain ⟨p, l, e, R, s, m, args, below, meth, c, cl, sl, Qf⟩ := M
  obtain ⟨hx, hb, hml, hown, hts, hlk, hr, hR, hK, hE, hok, hcl⟩ := C
  intro r σ' hX H locs ls hP hS hl
  by_cases hc : y < x
  · rw [if_pos hc] at hX
    exact lv_icmp_gt hx hb hd ht (fun h => K1 h r σ' hX H locs ls hP hS hl) (fun h => absurd hc h)
  · rw [if_neg hc] at hX
    exact lv_icmp_gt hx hb hd ht (fun h => absurd h hc) (fun h => K2 h r σ' hX H locs ls hP hS hl)
theorem go_icmp_le {X2 : Option (α × fh_S)} (C : fh_Cx E M cc nL own rt rm) {x y : Int32} {off : Int} {tgt : Nat} (hd : decode cc pc = .ok (.if_icmp .le off, 3)) (ht : (pc : Int) + off = (tgt : Int)) (K1 : (x ≤ y) → fh_Go E M nL vw tgt lv st σ X) (K2 : ¬ (x ≤ y) → fh_Go E M nL vw (pc + 3) lv st σ X2) : fh_Go E M nL vw pc lv (.int y :: .int x :: st) σ (if x ≤ y then X else X2) := by
  obtain ⟨p, l, e, R, s, m, args, below, meth, c, cl, sl, Qf⟩ := M
  obtain ⟨hx, hb, hml, hown, hts, hlk, hr, hR, hK, hE, hok, hcl⟩ := C
  intro r σ' hX H locs ls hP hS hl
  by_cases hc : x ≤ y
  · rw [if_pos hc] at hX
    exact lv_icmp_le hx hb hd ht (fun h => K1 h r σ' hX H locs ls hP hS hl) (fun h => absurd hc h)
  · rw [if_neg hc] at hX
    exact lv_icmp_le hx hb hd ht (fun h => absurd h hc) (fun h => K2 h r σ' hX H locs ls hP hS hl)
theorem go_if_eq {X2 : Option (α × fh_S)} (C : fh_Cx E M cc nL own rt rm) {x : Int32} {off : Int} {tgt : Nat} (hd : decode cc pc = .ok (.ifCond .eq off, 3)) (ht : (pc : Int) + off = (tgt : Int)) (K1 : (x = 0) → fh_Go E M nL vw tgt lv st σ X) (K2 : ¬ (x = 0) → fh_Go E M nL vw (pc + 3) lv st σ X2) : fh_Go E M nL vw pc lv (.int x :: st) σ (if x = 0 then X else X2) := by
  obtain ⟨p, l, e, R, s, m, args, below, meth, c, cl, sl, Qf⟩ := M
  obtain ⟨hx, hb, hml, hown, hts, hlk, hr, hR, hK, hE, hok, hcl⟩ := C
  intro r σ' hX H locs ls hP hS hl
  by_cases hc : x = 0
  · rw [if_pos hc] at hX
    exact lv_if_eq hx hb hd ht (fun h => K1 h r σ' hX H locs ls hP hS hl) (fun h => absurd hc h)
  · rw [if_neg hc] at hX
    exact lv_if_eq hx hb hd ht (fun h => absurd h hc) (fun h => K2 h r σ' hX H locs ls hP hS hl)
theorem go_if_lt {X2 : Option (α × fh_S)} (C : fh_Cx E M cc nL own rt rm) {x : Int32} {off : Int} {tgt : Nat} (hd : decode cc pc = .ok (.ifCond .lt off, 3)) (ht : (pc : Int) + off = (tgt : Int)) (K1 : (x < 0) → fh_Go E M nL vw tgt lv st σ X) (K2 : ¬ (x < 0) → fh_Go E M nL vw (pc + 3) lv st σ X2) : fh_Go E M nL vw pc lv (.int x :: st) σ (if x < 0 then X else X2) := by
  obtain ⟨p, l, e, R, s, m, args, below, meth, c, cl, sl, Qf⟩ := M
  obtain ⟨hx, hb, hml, hown, hts, hlk, hr, hR, hK, hE, hok, hcl⟩ := C
  intro r σ' hX H locs ls hP hS hl
  by_cases hc : x < 0
  · rw [if_pos hc] at hX
    exact lv_if_lt hx hb hd ht (fun h => K1 h r σ' hX H locs ls hP hS hl) (fun h => absurd hc h)
  · rw [if_neg hc] at hX
    exact lv_if_lt hx hb hd ht (fun h => absurd h hc) (fun h => K2 h r σ' hX H locs ls hP hS hl)
theorem go_if_ge {X2 : Option (α × fh_S)} (C : fh_Cx E M cc nL own rt rm) {x : Int32} {off : Int} {tgt : Nat} (hd : decode cc pc = .ok (.ifCond .ge off, 3)) (ht : (pc : Int) + off = (tgt : Int)) (K1 : (0 ≤ x) → fh_Go E M nL vw tgt lv st σ X) (K2 : ¬ (0 ≤ x) → fh_Go E M nL vw (pc + 3) lv st σ X2) : fh_Go E M nL vw pc lv (.int x :: st) σ (if 0 ≤ x then X else X2) := by
  obtain ⟨p, l, e, R, s, m, args, below, meth, c, cl, sl, Qf⟩ := M
  obtain ⟨hx, hb, hml, hown, hts, hlk, hr, hR, hK, hE, hok, hcl⟩ := C
  intro r σ' hX H locs ls hP hS hl
  by_cases hc : 0 ≤ x
  · rw [if_pos hc] at hX
    exact lv_if_ge hx hb hd ht (fun h => K1 h r σ' hX H locs ls hP hS hl) (fun h => absurd hc h)
  · rw [if_neg hc] at hX
    exact lv_if_ge hx hb hd ht (fun h => absurd h hc) (fun h => K2 h r σ' hX H locs ls hP hS hl)
theorem go_if_gt {X2 : Option (α × fh_S)} (C : fh_Cx E M cc nL own rt rm) {x : Int32} {off : Int} {tgt : Nat} (hd : decode cc pc = .ok (.ifCond .gt off, 3)) (ht : (pc : Int) + off = (tgt : Int)) (K1 : (0 < x) → fh_Go E M nL vw tgt lv st σ X) (K2 : ¬ (0 < x) → fh_Go E M nL vw (pc + 3) lv st σ X2) : fh_Go E M nL vw pc lv (.int x :: st) σ (if 0 < x then X else X2) := by
  obtain ⟨p, l, e, R, s, m, args, below, meth, c, cl, sl, Qf⟩ := M
  obtain ⟨hx, hb, hml, hown, hts, hlk, hr, hR, hK, hE, hok, hcl⟩ := C
  intro r σ' hX H locs ls hP hS hl
  by_cases hc : 0 < x
  · rw [if_pos hc] at hX
    exact lv_if_gt hx hb hd ht (fun h => K1 h r σ' hX H locs ls hP hS hl) (fun h => absurd hc h)
  · rw [if_neg hc] at hX
    exact lv_if_gt hx hb hd ht (fun h => absurd h hc) (fun h => K2 h r σ' hX H locs ls hP hS hl)
theorem go_if_le {X2 : Option (α × fh_S)} (C : fh_Cx E M cc nL own rt rm) {x : Int32} {off : Int} {tgt : Nat} (hd : decode cc pc = .ok (.ifCond .le off, 3)) (ht : (pc : Int) + off = (tgt : Int)) (K1 : (x ≤ 0) → fh_Go E M nL vw tgt lv st σ X) (K2 : ¬ (x ≤ 0) → fh_Go E M nL vw (pc + 3) lv st σ X2) : fh_Go E M nL vw pc lv (.int x :: st) σ (if x ≤ 0 then X else X2) := by
  obtain ⟨p, l, e, R, s, m, args, below, meth, c, cl, sl, Qf⟩ := M
  obtain ⟨hx, hb, hml, hown, hts, hlk, hr, hR, hK, hE, hok, hcl⟩ := C
  intro r σ' hX H locs ls hP hS hl
  by_cases hc : x ≤ 0
  · rw [if_pos hc] at hX
    exact lv_if_le hx hb hd ht (fun h => K1 h r σ' hX H locs ls hP hS hl) (fun h => absurd hc h)
  · rw [if_neg hc] at hX
    exact lv_if_le hx hb hd ht (fun h => absurd h hc) (fun h => K2 h r σ' hX H locs ls hP hS hl)
theorem go_icmp_ne {X2 : Option (α × fh_S)} (C : fh_Cx E M cc nL own rt rm) {x y : Int32} {off : Int} {tgt : Nat} (hd : decode cc pc = .ok (.if_icmp .ne off, 3)) (ht : (pc : Int) + off = (tgt : Int)) (K1 : ¬ (x = y) → fh_Go E M nL vw tgt lv st σ X) (K2 : (x = y) → fh_Go E M nL vw (pc + 3) lv st σ X2) : fh_Go E M nL vw pc lv (.int y :: .int x :: st) σ (if x = y then X2 else X) := by
  obtain ⟨p, l, e, R, s, m, args, below, meth, c, cl, sl, Qf⟩ := M
  obtain ⟨hx, hb, hml, hown, hts, hlk, hr, hR, hK, hE, hok, hcl⟩ := C
  intro r σ' hX H locs ls hP hS hl
  by_cases hc : x = y
  · rw [if_pos hc] at hX
    exact lv_icmp_ne hx hb hd ht (fun h => absurd hc h) (fun h => K2 h r σ' hX H locs ls hP hS hl)
  · rw [if_neg hc] at hX
    exact lv_icmp_ne hx hb hd ht (fun h => K1 h r σ' hX H locs ls hP hS hl) (fun h => absurd h hc)
theorem go_if_ne {X2 : Option (α × fh_S)} (C : fh_Cx E M cc nL own rt rm) {x : Int32} {off : Int} {tgt : Nat} (hd : decode cc pc = .ok (.ifCond .ne off, 3)) (ht : (pc : Int) + off = (tgt : Int)) (K1 : ¬ (x = 0) → fh_Go E M nL vw tgt lv st σ X) (K2 : (x = 0) → fh_Go E M nL vw (pc + 3) lv st σ X2) : fh_Go E M nL vw pc lv (.int x :: st) σ (if x = 0 then X2 else X) := by
  obtain ⟨p, l, e, R, s, m, args, below, meth, c, cl, sl, Qf⟩ := M
  obtain ⟨hx, hb, hml, hown, hts, hlk, hr, hR, hK, hE, hok, hcl⟩ := C
  intro r σ' hX H locs ls hP hS hl
  by_cases hc : x = 0
  · rw [if_pos hc] at hX
    exact lv_if_ne hx hb hd ht (fun h => absurd hc h) (fun h => K2 h r σ' hX H locs ls hP hS hl)
  · rw [if_neg hc] at hX
    exact lv_if_ne hx hb hd ht (fun h => K1 h r σ' hX H locs ls hP hS hl) (fun h => absurd h hc)
theorem go_goto (C : fh_Cx E M cc nL own rt rm) {off : Int} (tgt : Nat) (hd : decode cc pc = .ok (.goto off, 3)) (ht : (pc : Int) + off = (tgt : Int)) (K : fh_Go E M nL vw tgt lv st σ X) : fh_Go E M nL vw pc lv st σ X := by
  obtain ⟨p, l, e, R, s, m, args, below, meth, c, cl, sl, Qf⟩ := M
  obtain ⟨hx, hb, hml, hown, hts, hlk, hr, hR, hK, hE, hok, hcl⟩ := C
  intro r σ' hX H locs ls hP hS hl
  exact lv_goto hx hb hd ht (K r σ' hX H locs ls hP hS hl)
theorem go_ifnull (C : fh_Cx E M cc nL own rt rm) {x : Nat} {off : Int} (hd : decode cc pc = .ok (.ifnull off, 3)) (K : fh_Go E M nL vw (pc + 3) lv st σ X) : fh_Go E M nL vw pc lv (.ref x :: st) σ X := by
  obtain ⟨p, l, e, R, s, m, args, below, meth, c, cl, sl, Qf⟩ := M
  obtain ⟨hx, hb, hml, hown, hts, hlk, hr, hR, hK, hE, hok, hcl⟩ := C
  intro r σ' hX H locs ls hP hS hl
  exact lv_ifnull hx hb hd (K r σ' hX H locs ls hP hS hl)
theorem go_ifnullN (C : fh_Cx E M cc nL own rt rm) {off : Int} (tgt : Nat) (hd : decode cc pc = .ok (.ifnull off, 3)) (ht : (pc : Int) + off = (tgt : Int)) (K : fh_Go E M nL vw tgt lv st σ X) : fh_Go E M nL vw pc lv (.null :: st) σ X := by
  obtain ⟨p, l, e, R, s, m, args, below, meth, c, cl, sl, Qf⟩ := M
  obtain ⟨hx, hb, hml, hown, hts, hlk, hr, hR, hK, hE, hok, hcl⟩ := C
  intro r σ' hX H locs ls hP hS hl
  exact lv_ifnullN hx hb hd ht (K r σ' hX H locs ls hP hS hl)
theorem go_ifnonnull (C : fh_Cx E M cc nL own rt rm) {x : Nat} {off : Int} (tgt : Nat) (hd : decode cc pc = .ok (.ifnonnull off, 3)) (ht : (pc : Int) + off = (tgt : Int)) (K : fh_Go E M nL vw tgt lv st σ X) : fh_Go E M nL vw pc lv (.ref x :: st) σ X := by
  obtain ⟨p, l, e, R, s, m, args, below, meth, c, cl, sl, Qf⟩ := M
  obtain ⟨hx, hb, hml, hown, hts, hlk, hr, hR, hK, hE, hok, hcl⟩ := C
  intro r σ' hX H locs ls hP hS hl
  exact lv_ifnonnull hx hb hd ht (K r σ' hX H locs ls hP hS hl)
theorem go_ifnonnullN (C : fh_Cx E M cc nL own rt rm) {off : Int} (hd : decode cc pc = .ok (.ifnonnull off, 3)) (K : fh_Go E M nL vw (pc + 3) lv st σ X) : fh_Go E M nL vw pc lv (.null :: st) σ X := by
  obtain ⟨p, l, e, R, s, m, args, below, meth, c, cl, sl, Qf⟩ := M
  obtain ⟨hx, hb, hml, hown, hts, hlk, hr, hR, hK, hE, hok, hcl⟩ := C
  intro r σ' hX H locs ls hP hS hl
  exact lv_ifnonnullN hx hb hd (K r σ' hX H locs ls hP hS hl)
theorem go_sw {X2 : Option (α × fh_S)} (C : fh_Cx E M cc nL own rt rm) {dflt lo hi off : Int} {offs : Array Int} {len : Nat} {x : Int32} (v : Int32) (tgt : Nat) (hd : decode cc pc = .ok (.tableswitch dflt lo hi offs, len)) (h1 : ¬ v.toInt < lo) (h2 : ¬ hi < v.toInt) (ho : offs[(v.toInt - lo).toNat]? = some off) (ht : (pc : Int) + off = (tgt : Int)) (K1 : fh_Go E M nL vw tgt lv st σ X) (K2 : ¬ x = v → fh_Go E M nL vw pc lv (.int x :: st) σ X2) : fh_Go E M nL vw pc lv (.int x :: st) σ (if x = v then X else X2) := by
  obtain ⟨p, l, e, R, s, m, args, below, meth, c, cl, sl, Qf⟩ := M
  obtain ⟨hx, hb, hml, hown, hts, hlk, hr, hR, hK, hE, hok, hcl⟩ := C
  intro r σ' hX H locs ls hP hS hl
  by_cases hc : x = v
  · rw [if_pos hc] at hX
    subst hc
    exact lv_tableIn hx hb hd h1 h2 ho ht (K1 r σ' hX H locs ls hP hS hl)
  · rw [if_neg hc] at hX
    exact K2 hc r σ' hX H locs ls hP hS hl
theorem go_swd (C : fh_Cx E M cc nL own rt rm) {dflt lo hi : Int} {offs : Array Int} {len : Nat} {x : Int32} (tgt : Nat) (hd : decode cc pc = .ok (.tableswitch dflt lo hi offs, len)) (h : x.toInt < lo ∨ hi < x.toInt) (ht : (pc : Int) + dflt = (tgt : Int)) (K : fh_Go E M nL vw tgt lv st σ X) : fh_Go E M nL vw pc lv (.int x :: st) σ X := by
  obtain ⟨p, l, e, R, s, m, args, below, meth, c, cl, sl, Qf⟩ := M
  obtain ⟨hx, hb, hml, hown, hts, hlk, hr, hR, hK, hE, hok, hcl⟩ := C
  intro r σ' hX H locs ls hP hS hl
  exact lv_tableOut hx hb hd h ht (K r σ' hX H locs ls hP hS hl)
theorem go_lk {X2 : Option (α × fh_S)} (C : fh_Cx E M cc nL own rt rm) {dflt off : Int} {ps : Array (Int × Int)} {len : Nat} {x : Int32} (v : Int32) (tgt : Nat) (hd : decode cc pc = .ok (.lookupswitch dflt ps, len)) (hp : (ps.toList.zip (ps.toList.drop 1)).all (fun (a, next) => a.1 < next.1) = true) (ho : Op.lookupswitch.offset ps.toList dflt v.toInt = off) (ht : (pc : Int) + off = (tgt : Int)) (K1 : fh_Go E M nL vw tgt lv st σ X) (K2 : ¬ x = v → fh_Go E M nL vw pc lv (.int x :: st) σ X2) : fh_Go E M nL vw pc lv (.int x :: st) σ (if x = v then X else X2) := by
  obtain ⟨p, l, e, R, s, m, args, below, meth, c, cl, sl, Qf⟩ := M
  obtain ⟨hx, hb, hml, hown, hts, hlk, hr, hR, hK, hE, hok, hcl⟩ := C
  intro r σ' hX H locs ls hP hS hl
  by_cases hc : x = v
  · rw [if_pos hc] at hX
    subst hc
    exact lv_lookup hx hb hd hp ho ht (K1 r σ' hX H locs ls hP hS hl)
  · rw [if_neg hc] at hX
    exact K2 hc r σ' hX H locs ls hP hS hl
theorem go_lkd (C : fh_Cx E M cc nL own rt rm) {dflt off : Int} {ps : Array (Int × Int)} {len : Nat} {x : Int32} (tgt : Nat) (hd : decode cc pc = .ok (.lookupswitch dflt ps, len)) (hp : (ps.toList.zip (ps.toList.drop 1)).all (fun (a, next) => a.1 < next.1) = true) (ho : Op.lookupswitch.offset ps.toList dflt x.toInt = off) (ht : (pc : Int) + off = (tgt : Int)) (K : fh_Go E M nL vw tgt lv st σ X) : fh_Go E M nL vw pc lv (.int x :: st) σ X := by
  obtain ⟨p, l, e, R, s, m, args, below, meth, c, cl, sl, Qf⟩ := M
  obtain ⟨hx, hb, hml, hown, hts, hlk, hr, hR, hK, hE, hok, hcl⟩ := C
  intro r σ' hX H locs ls hP hS hl
  exact lv_lookup hx hb hd hp ho ht (K r σ' hX H locs ls hP hS hl)
theorem fh_ne {x v : Int32} {z : Int} (h : ¬ x = v) (hz : v.toInt = z) : x.toInt ≠ z := fun e => h (Int32.toInt_inj.mp (e.trans hz.symm))
theorem go_aret {X : Option Nat × fh_S} {t : FieldType} (C : fh_Cx E M cc nL own (some (.array t)) rm) (Hr : fh_Rt E M) {k : Nat} (hX : X = (some k, σ)) (hd : decode cc pc = .ok (.areturn, 1)) : fh_Go E M nL (fh_vR E) pc lv [.ref (fh_ad E k)] σ (some X) := by
  obtain ⟨p, l, e, R, s, m, args, below, meth, c, cl, sl, Qf⟩ := M
  obtain ⟨hx, hb, hml, hown, hts, hlk, hr, hR, hK, hE, hok, hcl⟩ := C
  obtain ⟨rfl, rfl, rfl⟩ := Hr
  subst hX
  intro r σ' hX H locs ls hP hS hl
  cases hX
  exact W.aret hx hb hr (Or.inr ⟨_, rfl⟩) (Or.inr ⟨_, rfl⟩) (fun t ht hW => ⟨rfl, by rw [ht]; exact hP, hS.F ht⟩) hS.2.2 hd hlk
theorem go_aretN {X : Option Nat × fh_S} {t : FieldType} (C : fh_Cx E M cc nL own (some (.array t)) rm) (Hr : fh_Rt E M) (hX : X = (none, σ)) (hd : decode cc pc = .ok (.areturn, 1)) : fh_Go E M nL (fh_vR E) pc lv [.null] σ (some X) := by
  obtain ⟨p, l, e, R, s, m, args, below, meth, c, cl, sl, Qf⟩ := M
  obtain ⟨hx, hb, hml, hown, hts, hlk, hr, hR, hK, hE, hok, hcl⟩ := C
  obtain ⟨rfl, rfl, rfl⟩ := Hr
  subst hX
  intro r σ' hX H locs ls hP hS hl
  cases hX
  exact W.aret hx hb hr (Or.inr ⟨_, rfl⟩) (Or.inl rfl) (fun t ht hW => ⟨rfl, by rw [ht]; exact hP, hS.F ht⟩) hS.2.2 hd hlk
theorem go_aretS {X : Nat × fh_S} {t : String} (C : fh_Cx E M cc nL own (some (.object t)) rm) (Hr : fh_Rt E M) {k : Nat} (hX : X = (k, σ)) (hd : decode cc pc = .ok (.areturn, 1)) : fh_Go E M nL (fh_vS E) pc lv [.ref (fh_aK E k)] σ (some X) := by
  obtain ⟨p, l, e, R, s, m, args, below, meth, c, cl, sl, Qf⟩ := M
  obtain ⟨hx, hb, hml, hown, hts, hlk, hr, hR, hK, hE, hok, hcl⟩ := C
  obtain ⟨rfl, rfl, rfl⟩ := Hr
  subst hX
  intro r σ' hX H locs ls hP hS hl
  cases hX
  exact W.aret hx hb hr (Or.inl ⟨_, rfl⟩) (Or.inr ⟨_, rfl⟩) (fun t ht hW => ⟨rfl, by rw [ht]; exact hP, hS.F ht⟩) hS.2.2 hd hlk

theorem go_eq {st' : List Value} (h : st = st') (K : fh_Go E M nL vw pc lv st' σ X) : fh_Go E M nL vw pc lv st σ X := h ▸ K
theorem go_X {X' : Option (α × fh_S)} (h : X = X') (K : fh_Go E M nL vw pc lv st σ X') : fh_Go E M nL vw pc lv st σ X := h ▸ K
theorem go_none : fh_Go E M nL vw pc lv st σ none := by
  obtain ⟨p, l, e, R, s, m, args, below, meth, c, cl, sl, Qf⟩ := M
  intro r σ' h
  cases h
/-- other locals listed -/
theorem go_lv {lv' : List (Nat × Value)} (ks : List Nat) (h : lv_pick lv ks = lv') (K : fh_Go E M nL vw pc lv' st σ X) : fh_Go E M nL vw pc lv st σ X := by
  obtain ⟨p, l, e, R, s, m, args, below, meth, c, cl, sl, Qf⟩ := M
  intro r σ' hX H locs ls hP hS hl
  exact K r σ' hX H locs ls hP hS (lv_sub hl ks h)
-- the store
theorem go_iald (C : fh_Cx E M cc nL own rt rm) {X : Int32 → Option (α × fh_S)} {k : Nat} {i : Int32} (hd : decode cc pc = .ok (.iaload, 1)) (K : ∀ v, fh_Go E M nL vw (pc + 1) lv (.int v :: st) σ (X v)) : fh_Go E M nL vw pc lv (.int i :: .ref (fh_ad E k) :: st) σ ((fh_ld σ k i).bind X) := by
  obtain ⟨p, l, e, R, s, m, args, below, meth, c, cl, sl, Qf⟩ := M
  obtain ⟨hx, hb, hml, hown, hts, hlk, hr, hR, hK, hE, hok, hcl⟩ := C
  intro r σ' hX H locs ls hP hS hl
  unfold fh_ld fh_arr at hX
  split at hX
  · rename_i n hs
    simp only [Option.bind_some] at hX
    split at hX
    · cases hX
    · rename_i hin
      exact va_iald (D := fh_D E) (tys := fh_ty E) (cl := fh_cl) (ws := fh_ws E σ) hx hb hK hP k 0 (n := n) (f := σ k) (fh_look hs) rfl hin hd (K _ r σ' hX H locs ls hP hS hl)
  · cases hX
theorem go_iast (C : fh_Cx E M cc nL own rt rm) {X : fh_S → Option (α × fh_S)} {k : Nat} {i v : Int32} (hd : decode cc pc = .ok (.iastore, 1)) (K : ∀ σ1, fh_Go E M nL vw (pc + 1) lv st σ1 (X σ1)) : fh_Go E M nL vw pc lv (.int v :: .int i :: .ref (fh_ad E k) :: st) σ ((fh_st σ k i v).bind X) := by
  obtain ⟨p, l, e, R, s, m, args, below, meth, c, cl, sl, Qf⟩ := M
  obtain ⟨hx, hb, hml, hown, hts, hlk, hr, hR, hK, hE, hok, hcl⟩ := C
  intro r σ' hX H locs ls hP hS hl
  unfold fh_st fh_arr at hX
  split at hX
  · rename_i n hs
    simp only [Option.bind_some] at hX
    split at hX
    · cases hX
    · rename_i hin
      refine va_iast (D := fh_D E) (tys := fh_ty E) (cl := fh_cl) (ws := fh_ws E σ) hx hb hK hP (fh_hD hok σ) hS k 0 (n := n) (f := σ k) (fh_look hs) rfl hin hd (fun H1 locs1 hP1 _ hS1 => ?_)
      have e1 := fh_set (E := E) (σ := σ) (f := upd (σ k) i.toNatClampNeg v) hs
      exact K _ r σ' hX H1 locs1 ls (e1 ▸ hP1) hS1 hl
  · cases hX
theorem go_alen (C : fh_Cx E M cc nL own rt rm) {X : Int32 → Option (α × fh_S)} {k : Nat} (hd : decode cc pc = .ok (.arraylength, 1)) (K : ∀ v, fh_Go E M nL vw (pc + 1) lv (.int v :: st) σ (X v)) : fh_Go E M nL vw pc lv (.ref (fh_ad E k) :: st) σ ((fh_ln k).bind X) := by
  obtain ⟨p, l, e, R, s, m, args, below, meth, c, cl, sl, Qf⟩ := M
  obtain ⟨hx, hb, hml, hown, hts, hlk, hr, hR, hK, hE, hok, hcl⟩ := C
  intro r σ' hX H locs ls hP hS hl
  unfold fh_ln at hX
  split at hX
  · rename_i n hs
    simp only [Option.bind_some] at hX
    exact va_alen (D := fh_D E) (tys := fh_ty E) (cl := fh_cl) (ws := fh_ws E σ) hx hb hK hP k 0 (fh_look hs) rfl rfl hd (K _ r σ' hX H locs ls hP hS hl)
  · rename_i hs
    simp only [Option.bind_some] at hX
    exact va_alen (D := fh_D E) (tys := fh_ty E) (cl := fh_cl) (ws := fh_ws E σ) hx hb hK hP k 2 (fh_look hs) rfl rfl hd (K _ r σ' hX H locs ls hP hS hl)
  · cases hX
theorem go_aald (C : fh_Cx E M cc nL own rt rm) {X : Nat → Option (α × fh_S)} {k : Nat} {i : Int32} (hd : decode cc pc = .ok (.aaload, 1)) (K : ∀ q, fh_Go E M nL vw (pc + 1) lv (.ref (fh_ad E q) :: st) σ (X q)) : fh_Go E M nL vw pc lv (.int i :: .ref (fh_ad E k) :: st) σ ((fh_lr k i).bind X) := by
  obtain ⟨p, l, e, R, s, m, args, below, meth, c, cl, sl, Qf⟩ := M
  obtain ⟨hx, hb, hml, hown, hts, hlk, hr, hR, hK, hE, hok, hcl⟩ := C
  intro r σ' hX H locs ls hP hS hl
  unfold fh_lr at hX
  split at hX
  · rename_i hs
    split at hX
    · cases hX
    · rename_i hin
      exact va_aldq (D := fh_D E) (tys := fh_ty E) (cl := fh_cl) (ws := fh_ws E σ) hx hb hK hP k 1 (fh_look hs) rfl hin hd (K _ r σ' hX H locs ls hP hS hl)
  · cases hX
theorem go_aals (C : fh_Cx E M cc nL own rt rm) {X : Nat → Option (α × fh_S)} {k : Nat} {i : Int32} (hd : decode cc pc = .ok (.aaload, 1)) (K : ∀ q, fh_Go E M nL vw (pc + 1) lv (.ref (fh_aK E q) :: st) σ (X q)) : fh_Go E M nL vw pc lv (.int i :: .ref (fh_ad E k) :: st) σ ((fh_ls k i).bind X) := by
  obtain ⟨p, l, e, R, s, m, args, below, meth, c, cl, sl, Qf⟩ := M
  obtain ⟨hx, hb, hml, hown, hts, hlk, hr, hR, hK, hE, hok, hcl⟩ := C
  intro r σ' hX H locs ls hP hS hl
  unfold fh_ls at hX
  split at hX
  · rename_i hs
    split at hX
    · cases hX
    · rename_i hin
      exact va_aldq (D := fh_D E) (tys := fh_ty E) (cl := fh_cl) (ws := fh_ws E σ) hx hb hK hP k 2 (fh_look hs) rfl hin hd (K _ r σ' hX H locs ls hP hS hl)
  · cases hX
theorem fh_obj_spec {ci k : Nat} {fs : List (Option Nat)} (h : fh_obj ci k = some fs) : fh_shp k = some (.inr (.inl (ci, fs))) := by
  unfold fh_obj at h
  split at h
  · rename_i c fs' hs
    split at h
    · rename_i hc
      cases h
      rw [← hc]
      exact hs
    · cases h
  · cases h
/-- an int field read -/
theorem go_gi (C : fh_Cx E M cc nL own rt rm) {X : Int32 → Option (α × fh_S)} {k ci j N idx : Nat} {ref cn : String} {T : u_T} (hin : ∀ w ∈ u_ws cn T N, w ∈ fh_T) (hc : fh_cl[ci]? = some (cn, T, N)) (hj : j < N) (hsame : ref = (T j).1) (hlink : Cond.fieldLink own idx ref (T j).2.1 (T j).2.2.1 ∈ fh_T) (hd : decode cc pc = .ok (.getfield idx, 3)) (K : ∀ v, fh_Go E M nL vw (pc + 3) lv (.int v :: st) σ (X v)) : fh_Go E M nL vw pc lv (.ref (fh_ad E k) :: st) σ ((fh_gi σ ci k j).bind X) := by
  obtain ⟨p, l, e, R, s, m, args, below, meth, c, cl, sl, Qf⟩ := M
  obtain ⟨hx, hb, hml, hown, hts, hlk, hr, hR, hK, hE, hok, hcl⟩ := C
  intro r σ' hX H locs ls hP hS hl
  unfold fh_gi at hX
  cases ho : fh_obj ci k with
  | none => rw [ho] at hX; cases hX
  | some fs =>
    rw [ho] at hX
    simp only [Option.bind_some] at hX
    split at hX
    · rename_i hf
      simp only [Option.bind_some] at hX
      subst hsame
      refine va_get (D := fh_D E) (tys := fh_ty E) (cl := fh_cl) (ws := fh_ws E σ) (v := .int (σ k j)) hx hb hts hin hown hK hP k (fh_look (fh_obj_spec ho)) hc j hj (hts _ hlink) (fun _ h => h) ?_ hd (K _ r σ' hX H locs ls hP hS hl)
      simp [List.getElem?_mapIdx, hf]
    · cases hX
/-- a field that is a fixed cell -/
theorem go_gr (C : fh_Cx E M cc nL own rt rm) {X : Nat → Option (α × fh_S)} {k ci j N idx : Nat} {ref cn : String} {T : u_T} (hin : ∀ w ∈ u_ws cn T N, w ∈ fh_T) (hc : fh_cl[ci]? = some (cn, T, N)) (hj : j < N) (hsame : ref = (T j).1) (hlink : Cond.fieldLink own idx ref (T j).2.1 (T j).2.2.1 ∈ fh_T) (hd : decode cc pc = .ok (.getfield idx, 3)) (K : ∀ q, fh_Go E M nL vw (pc + 3) lv (.ref (fh_ad E q) :: st) σ (X q)) : fh_Go E M nL vw pc lv (.ref (fh_ad E k) :: st) σ ((fh_gr ci k j).bind X) := by
  obtain ⟨p, l, e, R, s, m, args, below, meth, c, cl, sl, Qf⟩ := M
  obtain ⟨hx, hb, hml, hown, hts, hlk, hr, hR, hK, hE, hok, hcl⟩ := C
  intro r σ' hX H locs ls hP hS hl
  unfold fh_gr at hX
  cases ho : fh_obj ci k with
  | none => rw [ho] at hX; cases hX
  | some fs =>
    rw [ho] at hX
    simp only [Option.bind_some] at hX
    split at hX
    · rename_i q hf
      simp only [Option.bind_some] at hX
      subst hsame
      refine va_get (D := fh_D E) (tys := fh_ty E) (cl := fh_cl) (ws := fh_ws E σ) (v := .ref (fh_ad E q)) hx hb hts hin hown hK hP k (fh_look (fh_obj_spec ho)) hc j hj (hts _ hlink) (fun _ h => h) ?_ hd (K _ r σ' hX H locs ls hP hS hl)
      simp [List.getElem?_mapIdx, hf]
    · cases hX
theorem fh_fset {E : fh_E} {f : Nat → Int32} {fs : List (Option Nat)} {j : Nat} {v : Int32} (h : fs[j]? = some none) : (fs.mapIdx (fun j o => match o with
    | none => Value.int (f j)
    | some q => .ref (fh_ad E q))).set j (.int v) = fs.mapIdx (fun j' o => match o with
    | none => Value.int (upd f j v j')
    | some q => .ref (fh_ad E q)) := by
  have hl : j < fs.length := (List.getElem?_eq_some_iff.mp h).1
  apply List.ext_getElem?
  intro i
  by_cases hi : i = j
  · subst hi
    rw [List.getElem?_set_self (by simpa using hl), List.getElem?_mapIdx, h]
    simp [upd]
  · rw [List.getElem?_set_ne (Ne.symm hi), List.getElem?_mapIdx, List.getElem?_mapIdx]
    cases fs[i]? with
    | none => rfl
    | some o => cases o <;> simp [upd, hi]
theorem go_pf (C : fh_Cx E M cc nL own rt rm) {X : fh_S → Option (α × fh_S)} {k ci j N idx : Nat} {ref cn : String} {T : u_T} {v : Int32} (ty0 : Nat → FieldType) (hty : ∀ k, k < N → parseFieldDescriptor (T k).2.2.1 = some (ty0 k)) (hnm : ∀ a, a < N → ∀ b, b < N → a ≠ b → (T a).2.1 ≠ (T b).2.1) (hin : ∀ w ∈ u_ws cn T N, w ∈ fh_T) (hc : fh_cl[ci]? = some (cn, T, N)) (hj : j < N) (hsame : ref = (T j).1) (hlink : Cond.fieldLink own idx ref (T j).2.1 (T j).2.2.1 ∈ fh_T) (hfin : (T j).2.2.2 = false) (hi : ty0 j = .int) (hd : decode cc pc = .ok (.putfield idx, 3)) (K : ∀ σ1, fh_Go E M nL vw (pc + 3) lv st σ1 (X σ1)) : fh_Go E M nL vw pc lv (.int v :: .ref (fh_ad E k) :: st) σ ((fh_pf σ ci k j v).bind X) := by
  obtain ⟨p, l, e, R, s, m, args, below, meth, c, cl, sl, Qf⟩ := M
  obtain ⟨hx, hb, hml, hown, hts, hlk, hr, hR, hK, hE, hok, hcl⟩ := C
  intro r σ' hX H locs ls hP hS hl
  unfold fh_pf at hX
  cases ho : fh_obj ci k with
  | none => rw [ho] at hX; cases hX
  | some fs =>
    rw [ho] at hX
    simp only [Option.bind_some] at hX
    split at hX
    · rename_i hf
      simp only [Option.bind_some] at hX
      subst hsame
      have hsh := fh_obj_spec ho
      refine va_put (D := fh_D E) (tys := fh_ty E) (cl := fh_cl) (ws := fh_ws E σ) (ty := .int) hx hb hts hin ty0 hty hnm hown hK hP (fh_hD hok σ) hS k (fh_look hsh) hc j hj (hts _ hlink) (fun _ h => h) hfin (by rw [hty j hj, hi]) rfl rfl (by rw [List.length_mapIdx]; exact (List.getElem?_eq_some_iff.mp hf).1) hd (fun H1 locs1 hP1 _ hS1 => ?_)
      rw [fh_fset hf] at hP1
      have e1 := fh_set (E := E) (σ := σ) (f := upd (σ k) j v) hsh
      exact K _ r σ' hX H1 locs1 ls (e1 ▸ hP1) hS1 hl
    · cases hX
theorem go_pz (C : fh_Cx E M cc nL own rt rm) {X : fh_S → Option (α × fh_S)} {k ci j N idx : Nat} {ref cn : String} {T : u_T} {v : Int32} (ty0 : Nat → FieldType) (hty : ∀ k, k < N → parseFieldDescriptor (T k).2.2.1 = some (ty0 k)) (hnm : ∀ a, a < N → ∀ b, b < N → a ≠ b → (T a).2.1 ≠ (T b).2.1) (hin : ∀ w ∈ u_ws cn T N, w ∈ fh_T) (hc : fh_cl[ci]? = some (cn, T, N)) (hj : j < N) (hsame : ref = (T j).1) (hlink : Cond.fieldLink own idx ref (T j).2.1 (T j).2.2.1 ∈ fh_T) (hfin : (T j).2.2.2 = false) (hi : ty0 j = .boolean) (hd : decode cc pc = .ok (.putfield idx, 3)) (K : ∀ σ1, fh_Go E M nL vw (pc + 3) lv st σ1 (X σ1)) : fh_Go E M nL vw pc lv (.int v :: .ref (fh_ad E k) :: st) σ ((fh_pz σ ci k j v).bind X) := by
  obtain ⟨p, l, e, R, s, m, args, below, meth, c, cl, sl, Qf⟩ := M
  obtain ⟨hx, hb, hml, hown, hts, hlk, hr, hR, hK, hE, hok, hcl⟩ := C
  intro r σ' hX H locs ls hP hS hl
  unfold fh_pz at hX
  split at hX
  case isFalse => cases hX
  rename_i hv
  unfold fh_pf at hX
  cases ho : fh_obj ci k with
  | none => rw [ho] at hX; cases hX
  | some fs =>
    rw [ho] at hX
    simp only [Option.bind_some] at hX
    split at hX
    · rename_i hf
      simp only [Option.bind_some] at hX
      subst hsame
      have hsh := fh_obj_spec ho
      refine va_put (D := fh_D E) (tys := fh_ty E) (cl := fh_cl) (ws := fh_ws E σ) (ty := .boolean) hx hb hts hin ty0 hty hnm hown hK hP (fh_hD hok σ) hS k (fh_look hsh) hc j hj (hts _ hlink) (fun _ h => h) hfin (by rw [hty j hj, hi]) (by rcases hv with rfl | rfl <;> rfl) (by rcases hv with rfl | rfl <;> rfl) (by rw [List.length_mapIdx]; exact (List.getElem?_eq_some_iff.mp hf).1) hd (fun H1 locs1 hP1 _ hS1 => ?_)
      rw [fh_fset hf] at hP1
      have e1 := fh_set (E := E) (σ := σ) (f := upd (σ k) j v) hsh
      exact K _ r σ' hX H1 locs1 ls (e1 ▸ hP1) hS1 hl
    · cases hX
-- the table of kinds
theorem go_tu (C : fh_Cx E M cc nL own rt rm) {idx : Nat} (hlink : Cond.fieldLink own idx "FollowedHours" "UPPER_KIND" "[I" ∈ fh_T) (hd : decode cc pc = .ok (.getstatic idx, 3)) (K : fh_Go E M nL vw (pc + 3) lv (.ref (fh_tu E) :: st) σ X) : fh_Go E M nL vw pc lv st σ X := by
  obtain ⟨p, l, e, R, s, m, args, below, meth, c, cl, sl, Qf⟩ := M
  obtain ⟨hx, hb, hml, hown, hts, hlk, hr, hR, hK, hE, hok, hcl⟩ := C
  intro r σ' hX H locs ls hP hS hl
  exact va_gets hx hb hE.1 hS hown (hts _ hlink) (fun _ h => h) hd (K r σ' hX H locs ls hP hS hl)
theorem go_tuN (C : fh_Cx E M cc nL own rt rm) {idx : Nat} (hlink : Cond.fieldLinkNest own idx "FollowedHours" "UPPER_KIND" "[I" "FollowedHours" ∈ fh_nest) (hd : decode cc pc = .ok (.getstatic idx, 3)) (K : fh_Go E M nL vw (pc + 3) lv (.ref (fh_tu E) :: st) σ X) : fh_Go E M nL vw pc lv st σ X := by
  obtain ⟨p, l, e, R, s, m, args, below, meth, c, cl, sl, Qf⟩ := M
  obtain ⟨hx, hb, hml, hown, hts, hlk, hr, hR, hK, hE, hok, hcl⟩ := C
  intro r σ' hX H locs ls hP hS hl
  exact va_getsN hx hb hE.1 hS hown (va_Nw.use rfl (hE.2.2.2.2.2.2 _ hlink)) (fun _ h => h) hd (K r σ' hX H locs ls hP hS hl)
theorem go_tl (C : fh_Cx E M cc nL own rt rm) (hd : decode cc pc = .ok (.arraylength, 1)) (K : fh_Go E M nL vw (pc + 1) lv (.int 7 :: st) σ X) : fh_Go E M nL vw pc lv (.ref (fh_tu E) :: st) σ X := by
  obtain ⟨p, l, e, R, s, m, args, below, meth, c, cl, sl, Qf⟩ := M
  obtain ⟨hx, hb, hml, hown, hts, hlk, hr, hR, hK, hE, hok, hcl⟩ := C
  intro r σ' hX H locs ls hP hS hl
  exact va_tlen hx hb hE.2.1 hS rfl hd (K r σ' hX H locs ls hP hS hl)
theorem go_tk (C : fh_Cx E M cc nL own rt rm) {X : Int32 → Option (α × fh_S)} {i : Int32} (hd : decode cc pc = .ok (.iaload, 1)) (K : ∀ v, fh_Go E M nL vw (pc + 1) lv (.int v :: st) σ (X v)) : fh_Go E M nL vw pc lv (.int i :: .ref (fh_tu E) :: st) σ ((fh_tk i).bind X) := by
  obtain ⟨p, l, e, R, s, m, args, below, meth, c, cl, sl, Qf⟩ := M
  obtain ⟨hx, hb, hml, hown, hts, hlk, hr, hR, hK, hE, hok, hcl⟩ := C
  intro r σ' hX H locs ls hP hS hl
  unfold fh_tk at hX
  split at hX
  · cases hX
  · rename_i hin
    exact va_ti hx hb hE.2.1 hS hin rfl hd (K _ r σ' hX H locs ls hP hS hl)
theorem go_ldcS (C : fh_Cx E M cc nL own rt rm) {idx : Nat} {tx : String} (i : Nat) (hq : fh_so[i]? = some (own, idx, tx)) (hd : decode cc pc = .ok (.ldc idx, 2)) (K : fh_Go E M nL vw (pc + 2) lv (.ref (fh_aK E i) :: st) σ X) : fh_Go E M nL vw pc lv st σ X := by
  obtain ⟨p, l, e, R, s, m, args, below, meth, c, cl, sl, Qf⟩ := M
  obtain ⟨hx, hb, hml, hown, hts, hlk, hr, hR, hK, hE, hok, hcl⟩ := C
  intro r σ' hX H locs ls hP hS hl
  exact va_ldcS hx hb hown (hE.2.2.2.2.2.1 i _ hq) hd (K r σ' hX H locs ls hP hS hl)
-- ends
theorem go_iret {X : Int32 × fh_S} (C : fh_Cx E M cc nL own (some .int) rm) (Hr : fh_Rt E M) {v : Int32} (hX : X = (v, σ)) (hd : decode cc pc = .ok (.ireturn, 1)) : fh_Go E M nL fh_vI pc lv [.int v] σ (some X) := by
  obtain ⟨p, l, e, R, s, m, args, below, meth, c, cl, sl, Qf⟩ := M
  obtain ⟨hx, hb, hml, hown, hts, hlk, hr, hR, hK, hE, hok, hcl⟩ := C
  obtain ⟨rfl, rfl, rfl⟩ := Hr
  subst hX
  intro r σ' hX H locs ls hP hS hl
  cases hX
  exact W.iret hx hb hr (fun t ht hW => ⟨rfl, by rw [ht]; exact hP, hS.F ht⟩) hS.2.2 hd hlk
theorem go_zret (C : fh_Cx E M cc nL own (some .boolean) rm) (Hr : fh_Rt E M) {v : Int32} (hd : decode cc pc = .ok (.ireturn, 1)) : fh_Go E M nL fh_vI pc lv [.int v] σ (fh_rz v σ) := by
  obtain ⟨p, l, e, R, s, m, args, below, meth, c, cl, sl, Qf⟩ := M
  obtain ⟨hx, hb, hml, hown, hts, hlk, hr, hR, hK, hE, hok, hcl⟩ := C
  obtain ⟨rfl, rfl, rfl⟩ := Hr
  intro r σ' hX H locs ls hP hS hl
  unfold fh_rz at hX
  split at hX
  · rename_i hv
    cases hX
    exact W.zret hx hb hr (by rcases hv with rfl | rfl <;> rfl) (fun t ht hW => ⟨rfl, by rw [ht]; exact hP, hS.F ht⟩) hS.2.2 hd hlk
  · cases hX
theorem go_vret {X : Unit × fh_S} (C : fh_Cx E M cc nL own none rm) (Hr : fh_Rt E M) (hX : X = ((), σ)) (hd : decode cc pc = .ok (.return_, 1)) : fh_Go E M nL fh_vU pc lv [] σ (some X) := by
  obtain ⟨p, l, e, R, s, m, args, below, meth, c, cl, sl, Qf⟩ := M
  obtain ⟨hx, hb, hml, hown, hts, hlk, hr, hR, hK, hE, hok, hcl⟩ := C
  obtain ⟨rfl, rfl, rfl⟩ := Hr
  subst hX
  intro r σ' hX H locs ls hP hS hl
  cases hX
  exact W.vret hx hb hr (fun t ht hW => ⟨rfl, by rw [ht]; exact hP, hS.F ht⟩) hS.2.2 hd hlk
theorem go_lret {X : Int64 × fh_S} (C : fh_Cx E M cc nL own (some .long) rm) (Hr : fh_Rt E M) {v : Int64} (hX : X = (v, σ)) (hd : decode cc pc = .ok (.lreturn, 1)) : fh_Go E M nL fh_vL pc lv [.long v] σ (some X) := by
  obtain ⟨p, l, e, R, s, m, args, below, meth, c, cl, sl, Qf⟩ := M
  obtain ⟨hx, hb, hml, hown, hts, hlk, hr, hR, hK, hE, hok, hcl⟩ := C
  obtain ⟨rfl, rfl, rfl⟩ := Hr
  subst hX
  intro r σ' hX H locs ls hP hS hl
  cases hX
  exact W.lret hx hb hr (fun t ht hW => ⟨rfl, by rw [ht]; exact hP, hS.F ht⟩) hS.2.2 hd hlk
end FHGO
end
section
section FHCALL
theorem fh_gw {y : MethodName} {b : ByteArray} {n : Nat} {ret : Option FieldType} (h : Cond.code y b n ret ∈ fh_T) : GoodIn fh_T (fh_w y b n ret) := by
  intro w hw
  rcases List.mem_cons.mp hw with e | e
  · subst e; exact ⟨h, fh_good h⟩
  · exact ⟨e, fh_good e⟩
theorem fh_blind {E : fh_E} {σ : fh_S} {As : List Value} : FrameBlind (va_Pc As (fh_Wd E σ)) := fun a U g mk q => by
  obtain ⟨q0, q1, q2, q3⟩ := q
  exact ⟨q0, q1, va_K.moved (u := U) (U := U.calling g mk a) (Vm.Alike.refl U.vm) q2, q3.1.moved (U := U.calling g mk a) (Vm.Alike.refl U.vm), q3.2.1.moved (U := U.calling g mk a) (Vm.Alike.refl U.vm), q3.2.2.1.moved (U := U.calling g mk a) (Vm.Alike.refl U.vm), q3.2.2.2.1.moved (U := U.calling g mk a) (Vm.Alike.refl U.vm), fun i hi => ⟨(q3.2.2.2.2.1 i hi).1.moved (U := U.calling g mk a) (Vm.Alike.refl U.vm), (q3.2.2.2.2.1 i hi).2.1.moved (U := U.calling g mk a) (Vm.Alike.refl U.vm), (q3.2.2.2.2.1 i hi).2.2.1.moved (U := U.calling g mk a) (Vm.Alike.refl U.vm), (q3.2.2.2.2.1 i hi).2.2.2.moved (U := U.calling g mk a) (Vm.Alike.refl U.vm)⟩, fun i q hq => (q3.2.2.2.2.2.1 i q hq).same (U := U.calling g mk a) rfl, fun w hw => va_Nw.same (by
    simp only [fh_nest, List.mem_cons, List.not_mem_nil, or_false] at hw
    rcases hw with rfl | rfl | rfl | rfl | rfl | rfl | rfl | rfl | rfl <;> rfl) (u := U) (U := U.calling g mk a) rfl (q3.2.2.2.2.2.2 w hw)⟩
theorem fh_after {E : fh_E} {p : Program} {l : Launch} {e : Env} {R : Room} {s : State} {m : MethodId} {args : Array Value} {below : List Frame} {meth : Method} {c : Code} {H : Heap} {locs : List Loc} {cl sl : Nat} {Q : State → Prop} {pc : Nat} {ls : Array Slot} {st0 rest : List Value} {a : Array Value} {v : Option Value} {σ1 : fh_S}
    (hr : va_Run p l e R s m args below meth c H locs cl sl 0 0 (F0 m pc ls st0) rest (fh_Q E v σ1 a) (fh_A E)) (hS : va_S (fh_A E) s.heap H locs)
    (kk : ∀ (H1 : Heap) (locs1 : List Loc), va_P (fh_D E) fh_cl (fh_ws E σ1) H1 → va_S (fh_A E) s.heap H1 locs1 → W p l e R s m args below meth c H1 locs1 cl sl Q (F0 m (pc + 3) ls (v.toList ++ rest))) : W p l e R s m args below meth c H locs cl sl Q (F0 m pc ls st0) := by
  intro T hT X
  obtain ⟨v', st₀, t, T', L, h0, X', hL, e1, e2, ⟨hv, hP1, hz, hk⟩, st⟩ := hr T hT X
  cases hv
  rw [h0] at hz hk
  obtain ⟨t2, a1, b1⟩ := kk T'.heap (locs ++ L) (by rw [e1]; exact hP1)
    ⟨Nat.le_trans hS.1 (by rw [e1]; exact hz), fun q h1 h2 => by rw [e1, hk q (Nat.lt_of_lt_of_le h1 hS.1) h2]; exact hS.2.1 q h1 h2, fun q hq => by
      rcases List.mem_append.mp hq with h | h
      · exact hS.2.2 q h
      · exact hL q h⟩ T' rfl X'
  exact ⟨t2, st t2 a1, b1⟩
/-- a method's contract -/
def fh_Met {β : Type} (E : fh_E) (l : Launch) (y : MethodName) (b : ByteArray) (n : Nat) (ret : Option FieldType) (rm : Room) (vw : β → Option Value) (As : List Value) (σ : fh_S) (F : Option (β × fh_S)) : Prop :=
  ∀ (r : β) (σ' : fh_S), F = some (r, σ') → Met l y (fh_w y b n ret) rm (va_Pc As (fh_Wd E σ)) (fh_Q E (vw r) σ') 0 0 (fh_A E)
variable {α β : Type} {E : fh_E} {M : fh_M} {cc : ByteArray} {nL : Nat} {own : String} {rt : Option FieldType} {rm : Room} {vw : α → Option Value} {pc : Nat} {lv : List (Nat × Value)} {st st0 : List Value} {σ : fh_S} {X : β → fh_S → Option (α × fh_S)}
variable {y : MethodName} {bytes : ByteArray} {maxL n idx : Nat} {ret : Option FieldType} {rm' : Room} {vw' : β → Option Value} {F : Option (β × fh_S)}
theorem go_callS (C : fh_Cx E M cc nL own rt rm) (As : List Value) (hM : fh_Met E M.2.1 y bytes maxL ret rm' vw' As σ F) (hst : st0 = As.reverse ++ st)
    (hw : Cond.methodLink own idx y ∈ fh_T ∧ Cond.static y ∈ fh_T ∧ Cond.initialized y.cls ∈ fh_T ∧ Cond.code y bytes maxL ret ∈ fh_T)
    (hd' : y.cls ≠ "java/lang/invoke/MethodHandle" ∧ y.cls ≠ "java/lang/invoke/VarHandle" ∧ (parseMethodDescriptor y.desc).map (fun d => d.parameters.length) = some n) (hn : As.length = n)
    (hR : (rm'.frames + 1 ≤ rm.frames ∧ 8 + (maxL + 11) + rm'.locals ≤ rm.locals) ∧ rm'.cells = 0 ∧ rm'.slots = 0) (hcat : (st.map fun v => v.category).sum ≤ 8) (hd : decode cc pc = .ok (.invokestatic idx, 3))
    (K : ∀ (r : β) (σ1 : fh_S), fh_Go E M nL vw (pc + 3) lv ((vw' r).toList ++ st) σ1 (X r σ1)) : fh_Go E M nL vw pc lv st0 σ (fh_cb F X) := by
  obtain ⟨p, l, e, R, s, m, args, below, meth, c, cl, sl, Qf⟩ := M
  obtain ⟨hx, hb, hml, hown, hts, hlk, hr, hRR, hK, hE, hok, hcl⟩ := C
  intro r σ' hX H locs ls hP hS hl
  cases hF : F with
  | none => rw [hF] at hX; cases hX
  | some q =>
    obtain ⟨r1, σ1⟩ := q
    rw [hF] at hX
    subst hRR
    subst hst
    have hG : GoodIn fh_T (va_wsS own idx y (fh_w y bytes maxL ret)) := by
      intro w hw'
      unfold va_wsS at hw'
      rcases List.mem_append.mp hw' with h | h
      · simp only [List.mem_cons, List.not_mem_nil, or_false] at h
        rcases h with rfl | rfl | rfl
        · exact ⟨hw.1, fh_good hw.1⟩
        · exact ⟨hw.2.1, fh_good hw.2.1⟩
        · exact ⟨hw.2.2.1, fh_good hw.2.2.1⟩
      · exact fh_gw hw.2.2.2 w h
    refine fh_after (va_runS (As := As) (rest := st) (Ts := fh_T) ⟨hx, hb, hml, hown, hts⟩ (hM r1 σ1 hF) (va_cwS n hts hG rfl hR.2.1 hR.2.2 hd' hR.1) ⟨fh_blind, fun U hU hW => ⟨rfl, by rw [hU]; exact hP, va_K.moved hW.alike hK, fh_X_go hE hS hU hW⟩⟩ rfl hn hl.1 rfl (lv_room hcat) hd hcl) hS (fun H1 locs1 hP1 hS1 => ?_)
    exact K r1 σ1 r σ' hX H1 locs1 ls hP1 hS1 hl
theorem go_callN (C : fh_Cx E M cc nL own rt rm) (As : List Value) (host : String) (hM : fh_Met E M.2.1 y bytes maxL ret rm' vw' As σ F) (hst : st0 = As.reverse ++ st)
    (hw : Cond.methodLinkNest own idx y host ∈ fh_nest ∧ Cond.static y ∈ fh_T ∧ Cond.initialized y.cls ∈ fh_T ∧ Cond.code y bytes maxL ret ∈ fh_T)
    (hd' : y.cls ≠ "java/lang/invoke/MethodHandle" ∧ y.cls ≠ "java/lang/invoke/VarHandle" ∧ (parseMethodDescriptor y.desc).map (fun d => d.parameters.length) = some n) (hn : As.length = n)
    (hR : (rm'.frames + 1 ≤ rm.frames ∧ 8 + (maxL + 11) + rm'.locals ≤ rm.locals) ∧ rm'.cells = 0 ∧ rm'.slots = 0) (hcat : (st.map fun v => v.category).sum ≤ 8) (hd : decode cc pc = .ok (.invokestatic idx, 3))
    (K : ∀ (r : β) (σ1 : fh_S), fh_Go E M nL vw (pc + 3) lv ((vw' r).toList ++ st) σ1 (X r σ1)) : fh_Go E M nL vw pc lv st0 σ (fh_cb F X) := by
  obtain ⟨p, l, e, R, s, m, args, below, meth, c, cl, sl, Qf⟩ := M
  obtain ⟨hx, hb, hml, hown, hts, hlk, hr, hRR, hK, hE, hok, hcl⟩ := C
  intro r σ' hX H locs ls hP hS hl
  cases hF : F with
  | none => rw [hF] at hX; cases hX
  | some q =>
    obtain ⟨r1, σ1⟩ := q
    rw [hF] at hX
    subst hRR
    subst hst
    refine fh_after (va_runSN (As := As) (rest := st) (Ts := fh_T) (host := host) ⟨hx, hb, hml, hown, hts⟩ (hM r1 σ1 hF) ⟨va_cnB n hts (fh_gw hw.2.2.2) rfl hR.2.1 hR.2.2 (hE.2.2.2.2.2.2 _ hw.1) (hts _ hw.2.2.1) hd' hR.1, hts _ hw.2.1, trivial⟩ ⟨fh_blind, fun U hU hW => ⟨rfl, by rw [hU]; exact hP, va_K.moved hW.alike hK, fh_X_go hE hS hU hW⟩⟩ rfl hn hl.1 rfl (lv_room hcat) hd hcl) hS (fun H1 locs1 hP1 hS1 => ?_)
    exact K r1 σ1 r σ' hX H1 locs1 ls hP1 hS1 hl
theorem fh_recv {E : fh_E} {s : State} {H : Heap} {σ : fh_S} {ci k N : Nat} {cn : String} {T : u_T} (hK : va_K (fh_D E) fh_cl (fh_ty E) s) (hP : va_P (fh_D E) fh_cl (fh_ws E σ) H) (hc : fh_cl[ci]? = some (cn, T, N)) (h : fh_isC ci k = true) : ∃ cell : Cell, H[fh_ad E k]? = some cell ∧ cell.vm.isStatics = false ∧ s.vm.findClass cn = some cell.cls := by
  unfold fh_isC at h
  cases ho : fh_obj ci k with
  | none => rw [ho] at h; cases h
  | some fs => exact va_recv hK hP hc (fh_look (E := E) (σ := σ) (fh_obj_spec ho))
theorem go_callV (C : fh_Cx E M cc nL own rt rm) (As : List Value) {k ci N : Nat} {T : u_T} (hM : fh_Met E M.2.1 y bytes maxL ret rm' vw' (.ref (fh_ad E k) :: As) σ F) (hq : ∀ q, F = some q → fh_isC ci k = true) (hst : st0 = As.reverse ++ .ref (fh_ad E k) :: st) (hc : fh_cl[ci]? = some (y.cls, T, N))
    (hw : Cond.methodLink own idx y ∈ fh_T ∧ Cond.instanceMethod y ∈ fh_T ∧ Cond.selects y.cls y y ∈ fh_T ∧ Cond.initialized y.cls ∈ fh_T ∧ Cond.code y bytes maxL ret ∈ fh_T)
    (hd' : y.cls ≠ "java/lang/invoke/MethodHandle" ∧ y.cls ≠ "java/lang/invoke/VarHandle" ∧ (parseMethodDescriptor y.desc).map (fun d => d.parameters.length) = some n) (hn : As.length = n)
    (hR : (rm'.frames + 1 ≤ rm.frames ∧ 8 + (maxL + 11) + rm'.locals ≤ rm.locals) ∧ rm'.cells = 0 ∧ rm'.slots = 0) (hcat : (st.map fun v => v.category).sum ≤ 8) (hd : decode cc pc = .ok (.invokevirtual idx, 3))
    (K : ∀ (r : β) (σ1 : fh_S), fh_Go E M nL vw (pc + 3) lv ((vw' r).toList ++ st) σ1 (X r σ1)) : fh_Go E M nL vw pc lv st0 σ (fh_cb F X) := by
  obtain ⟨p, l, e, R, s, m, args, below, meth, c, cl, sl, Qf⟩ := M
  obtain ⟨hx, hb, hml, hown, hts, hlk, hr, hRR, hK, hE, hok, hcl⟩ := C
  intro r σ' hX H locs ls hP hS hl
  cases hF : F with
  | none => rw [hF] at hX; cases hX
  | some q =>
    have hqq := hq q hF
    obtain ⟨r1, σ1⟩ := q
    rw [hF] at hX
    subst hRR
    subst hst
    have hG : GoodIn fh_T (wsV own idx y.cls y (fh_w y bytes maxL ret)) := by
      intro w hw'
      unfold wsV at hw'
      rcases List.mem_append.mp hw' with h | h
      · simp only [List.mem_cons, List.not_mem_nil, or_false] at h
        rcases h with rfl | rfl | rfl | rfl
        · exact ⟨hw.1, fh_good hw.1⟩
        · exact ⟨hw.2.1, fh_good hw.2.1⟩
        · exact ⟨hw.2.2.1, fh_good hw.2.2.1⟩
        · exact ⟨hw.2.2.2.1, fh_good hw.2.2.2.1⟩
      · exact fh_gw hw.2.2.2.2 w h
    refine fh_after (va_runV (As := As) (rest := st) (Ts := fh_T) (C := y.cls) ⟨hx, hb, hml, hown, hts⟩ (hM r1 σ1 hF) (cwV n hts hG rfl hR.2.1 hR.2.2 ⟨rfl, hd'⟩ hR.1) ⟨fh_blind, fh_recv hK hP hc hqq, fun U hU hW => ⟨rfl, by rw [hU]; exact hP, va_K.moved hW.alike hK, fh_X_go hE hS hU hW⟩⟩ rfl hn hl.1 rfl (lv_room hcat) hd hcl) hS (fun H1 locs1 hP1 hS1 => ?_)
    exact K r1 σ1 r σ' hX H1 locs1 ls hP1 hS1 hl
/-- the JVM's own copy of a part of an int[] -/
theorem go_cp {X : fh_S → Option (α × fh_S)} (C : fh_Cx E M cc nL own rt rm) {k1 k2 : Nat} {sp dp n : Int32} (hw : Cond.methodLink own idx arraycopyName ∈ fh_T ∧ Cond.native arraycopyName ∈ fh_T ∧ Cond.static arraycopyName ∈ fh_T ∧ Cond.initialized "java/lang/System" ∈ fh_T) (hR : 1 ≤ rm.frames ∧ (st.map fun v => v.category).sum + (nativeFrameWords "java/lang/System" "arraycopy" 5 + 11) ≤ rm.locals) (hd : decode cc pc = .ok (.invokestatic idx, 3))
    (K : ∀ σ1, fh_Go E M nL vw (pc + 3) lv st σ1 (X σ1)) : fh_Go E M nL vw pc lv (.int n :: .int dp :: .ref (fh_ad E k2) :: .int sp :: .ref (fh_ad E k1) :: st) σ ((fh_cp σ k1 sp k2 dp n).bind X) := by
  obtain ⟨p, l, e, R, s, m, args, below, meth, c, cl, sl, Qf⟩ := M
  obtain ⟨hx, hb, hml, hown, hts, hlk, hr, hRR, hK, hE, hok, hcl⟩ := C
  intro r σ' hX H locs ls hP hS hl
  subst hRR
  unfold fh_cp fh_arr at hX
  split at hX
  · rename_i n1 h1
    simp only [Option.bind_some] at hX
    split at hX
    · rename_i n2 h2
      simp only [Option.bind_some] at hX
      split at hX
      · cases hX
      · rename_i hin
        simp only [not_or, Nat.not_lt] at hin
        refine va_copyi (D := fh_D E) (tys := fh_ty E) (cl := fh_cl) (ws := fh_ws E σ) (ty := .int) hx hb (by rw [hml, hl.1]) hown (hts _ hw.1) (hts _ hw.2.1) (hts _ hw.2.2.1) (hts _ hw.2.2.2) hK hP (fh_hD hok σ) hS k1 k2 0 0 (fh_look h1) (fh_look h2) rfl rfl rfl hin.1 hin.2.1 hin.2.2.1 hin.2.2.2.1 hin.2.2.2.2 (fun _ _ => rfl) hR.1 hR.2 hd (fun H1 locs1 hP1 _ hS1 => ?_)
        have e1 := fh_set (E := E) (σ := σ) (f := va_cpy (σ k1) (σ k2) sp.toNatClampNeg dp.toNatClampNeg n.toNatClampNeg) h2
        exact K _ r σ' hX H1 locs1 ls (e1 ▸ hP1) hS1 hl
    · cases hX
  · cases hX
/-- the contract out of the body -/
theorem fh_met {γ : Type} {E : fh_E} {l : Launch} {y : MethodName} {b : ByteArray} {n : Nat} {ret : Option FieldType} {rm : Room} {vw : γ → Option Value} {As : List Value} {σ : fh_S} {F : Option (γ × fh_S)} (hok : fh_ok E) (hy : plainFor y = true) (hlen : (lg_sl As).length ≤ n)
    (G : ∀ M : fh_M, M.2.1 = l → fh_Cx E M b n y.cls ret rm → fh_Rt E M → fh_Go E M n vw 0 (lv_args 0 As) [] σ F) : fh_Met E l y b n ret rm vw As σ F := by
  intro r σ' hF
  refine va_MetF (cc := b) (maxL := n) (ret := ret) hy rfl ?_
  intro p e s m args below meth c s₁ B hml hv
  obtain ⟨rfl, hP, hK, hE⟩ := hv
  have hts := atoms_spec (ws := fh_w y b n ret) B.pre
  have hl := lv_entry As (n := n) hlen
  rw [lg_entry_eq]
  exact G (p, l, e, (headSpec (fh_w y b n ret) rm).room, s, m, As.toArray, below, meth, c, 0, 0, fun v σ' => MQ below (fh_Q E v σ') As.toArray s 0 0 (fh_A E)) rfl ⟨B.exec, B.bytes, hml, findClass_of_methodNamed B.named, fun w hw => hts w (List.mem_cons_of_mem _ hw), B.notSynchronized, B.returns, rfl, hK, hE, hok, Nat.zero_le _, Nat.zero_le _⟩ ⟨rfl, rfl, rfl⟩ r σ' hF s.heap [] _ hP va_S.rf hl
end FHCALL
end
section
section FHMORE
theorem fh_cok {E : fh_E} {M : fh_M} {cc : ByteArray} {nL : Nat} {own : String} {rt : Option FieldType} {rm : Room} (C : fh_Cx E M cc nL own rt rm) : fh_ok E := by
  obtain ⟨p, l, e, R, s, m, args, below, meth, c, cl, sl, Qf⟩ := M
  exact C.2.2.2.2.2.2.2.2.2.2.1
def fh_fu : Nat := 5000
/-- a loop, so many times at most -/
def fh_fx {ρ : Type} (bot : ρ) (b : ρ → ρ) : Nat → ρ
  | 0 => bot
  | n + 1 => b (fh_fx bot b n)
theorem go_fx {ρ : Type} {bot : ρ} {b : ρ → ρ} (P : ρ → Prop) (h0 : P bot) (hs : ∀ r, P r → P (b r)) : ∀ n, P (fh_fx bot b n)
  | 0 => h0
  | n + 1 => hs _ (go_fx P h0 hs n)
/-- a place where ways meet -/
def fh_jn {γ δ : Type} (k : γ) (f : γ → δ) : δ := f k
def fh_on {β : Type} (o : Option Nat) (a : β) (f : Nat → β) : β := match o with
  | none => a
  | some k => f k
def fh_sg {β : Type} (i : Nat) (x : Option β) : Option β := if i < 26 then x else none
def fh_sb (i : Nat) (j : Int32) : Option Int32 := if i < 26 then (if j < 0 ∨ fh_sl i ≤ j.toNatClampNeg then none else some ((fh_tx i).getD j.toNatClampNeg 0)) else none
def fh_rc (v : Int32) (σ : fh_S) : Option (Int32 × fh_S) := if v < 0 ∨ 65535 < v then none else some (v, σ)
def fh_ry (v : Int32) (σ : fh_S) : Option (Int32 × fh_S) := if v = 0 then some (v, σ) else none
variable {α β : Type} {E : fh_E} {M : fh_M} {cc : ByteArray} {nL : Nat} {own : String} {rt : Option FieldType} {rm : Room} {vw : α → Option Value} {pc : Nat} {lv : List (Nat × Value)} {st st0 : List Value} {σ : fh_S} {X : Option (α × fh_S)}
theorem go_jn {γ : Type} {k : γ} {f : γ → Option (α × fh_S)} (P : γ → Prop) (hk : P k) (hf : ∀ j, P j → fh_Go E M nL vw pc lv st σ (f j)) : fh_Go E M nL vw pc lv st σ (fh_jn k f) := hf k hk
theorem go_ob {ci k : Nat} (K : fh_Go E M nL vw pc lv st σ X) : fh_Go E M nL vw pc lv st σ (fh_ob ci k X) := by
  unfold fh_ob
  split
  · exact K
  · exact go_none
theorem go_nz {y : Int32} (K : ¬ y = 0 → fh_Go E M nL vw pc lv st σ X) : fh_Go E M nL vw pc lv st σ (if y = 0 then none else X) := by
  split
  · exact go_none
  · rename_i h; exact K h
theorem go_sg {i : Nat} (K : i < 26 → fh_Go E M nL vw pc lv st σ X) : fh_Go E M nL vw pc lv st σ (fh_sg i X) := by
  unfold fh_sg
  split
  · rename_i h; exact K h
  · exact go_none
theorem fh_sg_ok {i : Nat} {x : Option β} {y : β} (h : fh_sg i x = some y) : i < 26 := by
  unfold fh_sg at h
  split at h
  · assumption
  · cases h
theorem go_on {o : Option Nat} {X2 : Nat → Option (α × fh_S)} (K1 : fh_Go E M nL vw pc lv (.null :: st) σ X) (K2 : ∀ k, fh_Go E M nL vw pc lv (.ref (fh_ad E k) :: st) σ (X2 k)) : fh_Go E M nL vw pc lv (va_rf (o.map (fh_ad E)) :: st) σ (fh_on o X X2) := by
  cases o with
  | none => exact K1
  | some k => exact K2 k
theorem go_sval (C : fh_Cx E M cc nL own rt rm) {i idx : Nat} (hi : i < 26) (hlink : Cond.fieldLink own idx "java/lang/String" "value" "[B" ∈ fh_T) (hd : decode cc pc = .ok (.getfield idx, 3)) (K : fh_Go E M nL vw (pc + 3) lv (.ref (fh_aV E i) :: st) σ X) : fh_Go E M nL vw pc lv (.ref (fh_aK E i) :: st) σ X := by
  obtain ⟨p, l, e, R, s, m, args, below, meth, c, cl, sl, Qf⟩ := M
  obtain ⟨hx, hb, hml, hown, hts, hlk, hr, hR, hK, hE, hok, hcl⟩ := C
  intro r σ' hX H locs ls hP hS hl
  exact vk_getf hx hb (hE.2.2.2.2.1 i hi).2.2.1 hS hown (hts _ hlink) (fun _ h => h) hd (K r σ' hX H locs ls hP hS hl)
theorem go_scod (C : fh_Cx E M cc nL own rt rm) {i idx : Nat} (hi : i < 26) (hlink : Cond.fieldLink own idx "java/lang/String" "coder" "B" ∈ fh_T) (hd : decode cc pc = .ok (.getfield idx, 3)) (K : fh_Go E M nL vw (pc + 3) lv (.int 0 :: st) σ X) : fh_Go E M nL vw pc lv (.ref (fh_aK E i) :: st) σ X := by
  obtain ⟨p, l, e, R, s, m, args, below, meth, c, cl, sl, Qf⟩ := M
  obtain ⟨hx, hb, hml, hown, hts, hlk, hr, hR, hK, hE, hok, hcl⟩ := C
  intro r σ' hX H locs ls hP hS hl
  exact vk_getf hx hb (hE.2.2.2.2.1 i hi).2.1 hS hown (hts _ hlink) (fun _ h => h) hd (K r σ' hX H locs ls hP hS hl)
theorem go_slen (C : fh_Cx E M cc nL own rt rm) {i : Nat} (hi : i < 26) (hd : decode cc pc = .ok (.arraylength, 1)) (K : fh_Go E M nL vw (pc + 1) lv (.int (Int32.ofNat (fh_sl i)) :: st) σ X) : fh_Go E M nL vw pc lv (.ref (fh_aV E i) :: st) σ X := by
  obtain ⟨p, l, e, R, s, m, args, below, meth, c, cl, sl, Qf⟩ := M
  obtain ⟨hx, hb, hml, hown, hts, hlk, hr, hR, hK, hE, hok, hcl⟩ := C
  intro r σ' hX H locs ls hP hS hl
  exact va_tlen hx hb (hE.2.2.2.2.1 i hi).2.2.2 hS rfl hd (K r σ' hX H locs ls hP hS hl)
theorem go_sbl {X : Int32 → Option (α × fh_S)} (C : fh_Cx E M cc nL own rt rm) {i : Nat} {j : Int32} (hd : decode cc pc = .ok (.baload, 1)) (K : ∀ v, fh_Go E M nL vw (pc + 1) lv (.int v :: st) σ (X v)) : fh_Go E M nL vw pc lv (.int j :: .ref (fh_aV E i) :: st) σ ((fh_sb i j).bind X) := by
  obtain ⟨p, l, e, R, s, m, args, below, meth, c, cl, sl, Qf⟩ := M
  obtain ⟨hx, hb, hml, hown, hts, hlk, hr, hR, hK, hE, hok, hcl⟩ := C
  intro r σ' hX H locs ls hP hS hl
  unfold fh_sb at hX
  split at hX
  · rename_i hi
    split at hX
    · cases hX
    · rename_i hin
      exact va_tb hx hb (hE.2.2.2.2.1 i hi).2.2.2 hS hin rfl hd (K _ r σ' hX H locs ls hP hS hl)
  · cases hX
theorem go_cs (C : fh_Cx E M cc nL own rt rm) {idx : Nat} (hlink : Cond.fieldLink own idx "java/lang/String" "COMPACT_STRINGS" "Z" ∈ fh_T) (hd : decode cc pc = .ok (.getstatic idx, 3)) (K : fh_Go E M nL vw (pc + 3) lv (.int 1 :: st) σ X) : fh_Go E M nL vw pc lv st σ X := by
  obtain ⟨p, l, e, R, s, m, args, below, meth, c, cl, sl, Qf⟩ := M
  obtain ⟨hx, hb, hml, hown, hts, hlk, hr, hR, hK, hE, hok, hcl⟩ := C
  intro r σ' hX H locs ls hP hS hl
  exact va_gets hx hb hE.2.2.1 hS hown (hts _ hlink) (fun _ h => h) hd (K r σ' hX H locs ls hP hS hl)
theorem go_sio (C : fh_Cx E M cc nL own rt rm) {idx : Nat} (hlink : Cond.fieldLink own idx "jdk/internal/util/Preconditions" "SIOOBE_FORMATTER" "Ljava/util/function/BiFunction;" ∈ fh_T) (hd : decode cc pc = .ok (.getstatic idx, 3)) (K : ∀ v : Value, v.category = 1 → fh_Go E M nL vw (pc + 3) lv (v :: st) σ X) : fh_Go E M nL vw pc lv st σ X := by
  obtain ⟨p, l, e, R, s, m, args, below, meth, c, cl, sl, Qf⟩ := M
  obtain ⟨hx, hb, hml, hown, hts, hlk, hr, hR, hK, hE, hok, hcl⟩ := C
  intro r σ' hX H locs ls hP hS hl
  rcases hE.2.2.2.1 with h | ⟨t, h⟩
  · exact va_gets hx hb h hS hown (hts _ hlink) (fun _ h => h) hd (K _ rfl r σ' hX H locs ls hP hS hl)
  · exact va_gets hx hb h hS hown (hts _ hlink) (fun _ h => h) hd (K _ rfl r σ' hX H locs ls hP hS hl)
theorem go_cret (C : fh_Cx E M cc nL own (some .char) rm) (Hr : fh_Rt E M) {v : Int32} (hd : decode cc pc = .ok (.ireturn, 1)) : fh_Go E M nL fh_vI pc lv [.int v] σ (fh_rc v σ) := by
  obtain ⟨p, l, e, R, s, m, args, below, meth, c, cl, sl, Qf⟩ := M
  obtain ⟨hx, hb, hml, hown, hts, hlk, hr, hR, hK, hE, hok, hcl⟩ := C
  obtain ⟨rfl, rfl, rfl⟩ := Hr
  intro r σ' hX H locs ls hP hS hl
  unfold fh_rc at hX
  split at hX
  · cases hX
  · rename_i hv
    have hv := not_or.mp hv
    cases hX
    obtain ⟨q, hq, e⟩ := nI_of2 (M := 65535) (n := 65535) (by decide) hv.1 (Int32.not_lt.mp hv.2)
    exact W.zret hx hb hr (by rw [e]; exact (pk_charN (by omega)).1) (fun t ht hW => ⟨rfl, by rw [ht]; exact hP, hS.F ht⟩) hS.2.2 hd hlk
theorem go_yret (C : fh_Cx E M cc nL own (some .byte) rm) (Hr : fh_Rt E M) {v : Int32} (hd : decode cc pc = .ok (.ireturn, 1)) : fh_Go E M nL fh_vI pc lv [.int v] σ (fh_ry v σ) := by
  obtain ⟨p, l, e, R, s, m, args, below, meth, c, cl, sl, Qf⟩ := M
  obtain ⟨hx, hb, hml, hown, hts, hlk, hr, hR, hK, hE, hok, hcl⟩ := C
  obtain ⟨rfl, rfl, rfl⟩ := Hr
  intro r σ' hX H locs ls hP hS hl
  unfold fh_ry at hX
  split at hX
  · rename_i hv
    subst hv
    cases hX
    exact W.zret hx hb hr rfl (fun t ht hW => ⟨rfl, by rw [ht]; exact hP, hS.F ht⟩) hS.2.2 hd hlk
  · cases hX
variable {y : MethodName} {bytes : ByteArray} {maxL n idx : Nat} {ret : Option FieldType} {rm' : Room} {vw' : β → Option Value} {F : Option (β × fh_S)}
theorem go_callX {X : β → fh_S → Option (α × fh_S)} (C : fh_Cx E M cc nL own rt rm) (As : List Value) {i : Nat} (hM : fh_Met E M.2.1 y bytes maxL ret rm' vw' (.ref (fh_aK E i) :: As) σ F) (hi : ∀ q, F = some q → i < 26) (hst : st0 = As.reverse ++ .ref (fh_aK E i) :: st) (hc : y.cls = "java/lang/String")
    (hw : Cond.methodLink own idx y ∈ fh_T ∧ Cond.instanceMethod y ∈ fh_T ∧ Cond.selects y.cls y y ∈ fh_T ∧ Cond.initialized y.cls ∈ fh_T ∧ Cond.code y bytes maxL ret ∈ fh_T)
    (hd' : y.cls ≠ "java/lang/invoke/MethodHandle" ∧ y.cls ≠ "java/lang/invoke/VarHandle" ∧ (parseMethodDescriptor y.desc).map (fun d => d.parameters.length) = some n) (hn : As.length = n)
    (hR : (rm'.frames + 1 ≤ rm.frames ∧ 8 + (maxL + 11) + rm'.locals ≤ rm.locals) ∧ rm'.cells = 0 ∧ rm'.slots = 0) (hcat : (st.map fun v => v.category).sum ≤ 8) (hd : decode cc pc = .ok (.invokevirtual idx, 3))
    (K : ∀ (r : β) (σ1 : fh_S), fh_Go E M nL vw (pc + 3) lv ((vw' r).toList ++ st) σ1 (X r σ1)) : fh_Go E M nL vw pc lv st0 σ (fh_cb F X) := by
  obtain ⟨p, l, e, R, s, m, args, below, meth, c, cl, sl, Qf⟩ := M
  obtain ⟨hx, hb, hml, hown, hts, hlk, hr, hRR, hK, hE, hok, hcl⟩ := C
  intro r σ' hX H locs ls hP hS hl
  cases hF : F with
  | none => rw [hF] at hX; cases hX
  | some q =>
    have hi := hi q hF
    obtain ⟨r1, σ1⟩ := q
    rw [hF] at hX
    subst hRR
    subst hst
    have hG : GoodIn fh_T (wsV own idx y.cls y (fh_w y bytes maxL ret)) := by
      intro w hw'
      unfold wsV at hw'
      rcases List.mem_append.mp hw' with h | h
      · simp only [List.mem_cons, List.not_mem_nil, or_false] at h
        rcases h with rfl | rfl | rfl | rfl
        · exact ⟨hw.1, fh_good hw.1⟩
        · exact ⟨hw.2.1, fh_good hw.2.1⟩
        · exact ⟨hw.2.2.1, fh_good hw.2.2.1⟩
        · exact ⟨hw.2.2.2.1, fh_good hw.2.2.2.1⟩
      · exact fh_gw hw.2.2.2.2 w h
    have hrc : ∃ cell : Cell, H[fh_aK E i]? = some cell ∧ cell.vm.isStatics = false ∧ s.vm.findClass y.cls = some cell.cls := by
      obtain ⟨cell, h1, h2, h3, -⟩ := (hE.2.2.2.2.1 i hi).1.kept hS.2.1
      exact ⟨cell, h1, h2, by rw [hc]; exact h3⟩
    refine fh_after (va_runV (As := As) (rest := st) (Ts := fh_T) (C := y.cls) ⟨hx, hb, hml, hown, hts⟩ (hM r1 σ1 hF) (cwV n hts hG rfl hR.2.1 hR.2.2 ⟨rfl, hd'⟩ hR.1) ⟨fh_blind, hrc, fun U hU hW => ⟨rfl, by rw [hU]; exact hP, va_K.moved hW.alike hK, fh_X_go hE hS hU hW⟩⟩ rfl hn hl.1 rfl (lv_room hcat) hd hcl) hS (fun H1 locs1 hP1 hS1 => ?_)
    exact K r1 σ1 r σ' hX H1 locs1 ls hP1 hS1 hl
theorem go_callVI {F : Option (Int32 × fh_S)} {X : Int32 → fh_S → Option (α × fh_S)} (C : fh_Cx E M cc nL own rt rm) (As : List Value) {k ci N : Nat} {T : u_T} (hM : fh_Met E M.2.1 y bytes maxL ret rm' fh_vI (.ref (fh_ad E k) :: As) σ F) (hq : ∀ q, F = some q → fh_isC ci k = true) (hst : st0 = As.reverse ++ .ref (fh_ad E k) :: st) (hc : fh_cl[ci]? = some (y.cls, T, N)) (hw : Cond.methodLink own idx y ∈ fh_T ∧ Cond.instanceMethod y ∈ fh_T ∧ Cond.selects y.cls y y ∈ fh_T ∧ Cond.initialized y.cls ∈ fh_T ∧ Cond.code y bytes maxL ret ∈ fh_T) (hd' : y.cls ≠ "java/lang/invoke/MethodHandle" ∧ y.cls ≠ "java/lang/invoke/VarHandle" ∧ (parseMethodDescriptor y.desc).map (fun d => d.parameters.length) = some n) (hn : As.length = n) (hR : (rm'.frames + 1 ≤ rm.frames ∧ 8 + (maxL + 11) + rm'.locals ≤ rm.locals) ∧ rm'.cells = 0 ∧ rm'.slots = 0) (hcat : (st.map fun v => v.category).sum ≤ 8) (hd : decode cc pc = .ok (.invokevirtual idx, 3)) (K : ∀ (r : Int32) (σ1 : fh_S), fh_Go E M nL vw (pc + 3) lv (.int r :: st) σ1 (X r σ1)) : fh_Go E M nL vw pc lv st0 σ (fh_cb F X) := go_callV C As hM hq hst hc hw hd' hn hR hcat hd K
theorem go_callVU {F : Option (Unit × fh_S)} {X : Unit → fh_S → Option (α × fh_S)} (C : fh_Cx E M cc nL own rt rm) (As : List Value) {k ci N : Nat} {T : u_T} (hM : fh_Met E M.2.1 y bytes maxL ret rm' fh_vU (.ref (fh_ad E k) :: As) σ F) (hq : ∀ q, F = some q → fh_isC ci k = true) (hst : st0 = As.reverse ++ .ref (fh_ad E k) :: st) (hc : fh_cl[ci]? = some (y.cls, T, N)) (hw : Cond.methodLink own idx y ∈ fh_T ∧ Cond.instanceMethod y ∈ fh_T ∧ Cond.selects y.cls y y ∈ fh_T ∧ Cond.initialized y.cls ∈ fh_T ∧ Cond.code y bytes maxL ret ∈ fh_T) (hd' : y.cls ≠ "java/lang/invoke/MethodHandle" ∧ y.cls ≠ "java/lang/invoke/VarHandle" ∧ (parseMethodDescriptor y.desc).map (fun d => d.parameters.length) = some n) (hn : As.length = n) (hR : (rm'.frames + 1 ≤ rm.frames ∧ 8 + (maxL + 11) + rm'.locals ≤ rm.locals) ∧ rm'.cells = 0 ∧ rm'.slots = 0) (hcat : (st.map fun v => v.category).sum ≤ 8) (hd : decode cc pc = .ok (.invokevirtual idx, 3)) (K : ∀ (r : Unit) (σ1 : fh_S), fh_Go E M nL vw (pc + 3) lv (st) σ1 (X r σ1)) : fh_Go E M nL vw pc lv st0 σ (fh_cb F X) := go_callV C As hM hq hst hc hw hd' hn hR hcat hd K
theorem go_callVR {F : Option (Option Nat × fh_S)} {X : Option Nat → fh_S → Option (α × fh_S)} (C : fh_Cx E M cc nL own rt rm) (As : List Value) {k ci N : Nat} {T : u_T} (hM : fh_Met E M.2.1 y bytes maxL ret rm' (fh_vR E) (.ref (fh_ad E k) :: As) σ F) (hq : ∀ q, F = some q → fh_isC ci k = true) (hst : st0 = As.reverse ++ .ref (fh_ad E k) :: st) (hc : fh_cl[ci]? = some (y.cls, T, N)) (hw : Cond.methodLink own idx y ∈ fh_T ∧ Cond.instanceMethod y ∈ fh_T ∧ Cond.selects y.cls y y ∈ fh_T ∧ Cond.initialized y.cls ∈ fh_T ∧ Cond.code y bytes maxL ret ∈ fh_T) (hd' : y.cls ≠ "java/lang/invoke/MethodHandle" ∧ y.cls ≠ "java/lang/invoke/VarHandle" ∧ (parseMethodDescriptor y.desc).map (fun d => d.parameters.length) = some n) (hn : As.length = n) (hR : (rm'.frames + 1 ≤ rm.frames ∧ 8 + (maxL + 11) + rm'.locals ≤ rm.locals) ∧ rm'.cells = 0 ∧ rm'.slots = 0) (hcat : (st.map fun v => v.category).sum ≤ 8) (hd : decode cc pc = .ok (.invokevirtual idx, 3)) (K : ∀ (r : Option Nat) (σ1 : fh_S), fh_Go E M nL vw (pc + 3) lv (va_rf (r.map (fh_ad E)) :: st) σ1 (X r σ1)) : fh_Go E M nL vw pc lv st0 σ (fh_cb F X) := go_callV C As hM hq hst hc hw hd' hn hR hcat hd K
theorem go_callVG {F : Option (Nat × fh_S)} {X : Nat → fh_S → Option (α × fh_S)} (C : fh_Cx E M cc nL own rt rm) (As : List Value) {k ci N : Nat} {T : u_T} (hM : fh_Met E M.2.1 y bytes maxL ret rm' (fh_vS E) (.ref (fh_ad E k) :: As) σ F) (hq : ∀ q, F = some q → fh_isC ci k = true) (hst : st0 = As.reverse ++ .ref (fh_ad E k) :: st) (hc : fh_cl[ci]? = some (y.cls, T, N)) (hw : Cond.methodLink own idx y ∈ fh_T ∧ Cond.instanceMethod y ∈ fh_T ∧ Cond.selects y.cls y y ∈ fh_T ∧ Cond.initialized y.cls ∈ fh_T ∧ Cond.code y bytes maxL ret ∈ fh_T) (hd' : y.cls ≠ "java/lang/invoke/MethodHandle" ∧ y.cls ≠ "java/lang/invoke/VarHandle" ∧ (parseMethodDescriptor y.desc).map (fun d => d.parameters.length) = some n) (hn : As.length = n) (hR : (rm'.frames + 1 ≤ rm.frames ∧ 8 + (maxL + 11) + rm'.locals ≤ rm.locals) ∧ rm'.cells = 0 ∧ rm'.slots = 0) (hcat : (st.map fun v => v.category).sum ≤ 8) (hd : decode cc pc = .ok (.invokevirtual idx, 3)) (K : ∀ (r : Nat) (σ1 : fh_S), fh_Go E M nL vw (pc + 3) lv (.ref (fh_aK E r) :: st) σ1 (X r σ1)) : fh_Go E M nL vw pc lv st0 σ (fh_cb F X) := go_callV C As hM hq hst hc hw hd' hn hR hcat hd K
theorem go_callXI {F : Option (Int32 × fh_S)} {X : Int32 → fh_S → Option (α × fh_S)} (C : fh_Cx E M cc nL own rt rm) (As : List Value) {i : Nat} (hM : fh_Met E M.2.1 y bytes maxL ret rm' fh_vI (.ref (fh_aK E i) :: As) σ F) (hi : ∀ q, F = some q → i < 26) (hst : st0 = As.reverse ++ .ref (fh_aK E i) :: st) (hc : y.cls = "java/lang/String") (hw : Cond.methodLink own idx y ∈ fh_T ∧ Cond.instanceMethod y ∈ fh_T ∧ Cond.selects y.cls y y ∈ fh_T ∧ Cond.initialized y.cls ∈ fh_T ∧ Cond.code y bytes maxL ret ∈ fh_T) (hd' : y.cls ≠ "java/lang/invoke/MethodHandle" ∧ y.cls ≠ "java/lang/invoke/VarHandle" ∧ (parseMethodDescriptor y.desc).map (fun d => d.parameters.length) = some n) (hn : As.length = n) (hR : (rm'.frames + 1 ≤ rm.frames ∧ 8 + (maxL + 11) + rm'.locals ≤ rm.locals) ∧ rm'.cells = 0 ∧ rm'.slots = 0) (hcat : (st.map fun v => v.category).sum ≤ 8) (hd : decode cc pc = .ok (.invokevirtual idx, 3)) (K : ∀ (r : Int32) (σ1 : fh_S), fh_Go E M nL vw (pc + 3) lv (.int r :: st) σ1 (X r σ1)) : fh_Go E M nL vw pc lv st0 σ (fh_cb F X) := go_callX C As hM hi hst hc hw hd' hn hR hcat hd K
theorem go_callSI {F : Option (Int32 × fh_S)} {X : Int32 → fh_S → Option (α × fh_S)} (C : fh_Cx E M cc nL own rt rm) (As : List Value) (hM : fh_Met E M.2.1 y bytes maxL ret rm' fh_vI As σ F) (hst : st0 = As.reverse ++ st) (hw : Cond.methodLink own idx y ∈ fh_T ∧ Cond.static y ∈ fh_T ∧ Cond.initialized y.cls ∈ fh_T ∧ Cond.code y bytes maxL ret ∈ fh_T) (hd' : y.cls ≠ "java/lang/invoke/MethodHandle" ∧ y.cls ≠ "java/lang/invoke/VarHandle" ∧ (parseMethodDescriptor y.desc).map (fun d => d.parameters.length) = some n) (hn : As.length = n) (hR : (rm'.frames + 1 ≤ rm.frames ∧ 8 + (maxL + 11) + rm'.locals ≤ rm.locals) ∧ rm'.cells = 0 ∧ rm'.slots = 0) (hcat : (st.map fun v => v.category).sum ≤ 8) (hd : decode cc pc = .ok (.invokestatic idx, 3)) (K : ∀ (r : Int32) (σ1 : fh_S), fh_Go E M nL vw (pc + 3) lv (.int r :: st) σ1 (X r σ1)) : fh_Go E M nL vw pc lv st0 σ (fh_cb F X) := go_callS C As hM hst hw hd' hn hR hcat hd K
theorem go_callSU {F : Option (Unit × fh_S)} {X : Unit → fh_S → Option (α × fh_S)} (C : fh_Cx E M cc nL own rt rm) (As : List Value) (hM : fh_Met E M.2.1 y bytes maxL ret rm' fh_vU As σ F) (hst : st0 = As.reverse ++ st) (hw : Cond.methodLink own idx y ∈ fh_T ∧ Cond.static y ∈ fh_T ∧ Cond.initialized y.cls ∈ fh_T ∧ Cond.code y bytes maxL ret ∈ fh_T) (hd' : y.cls ≠ "java/lang/invoke/MethodHandle" ∧ y.cls ≠ "java/lang/invoke/VarHandle" ∧ (parseMethodDescriptor y.desc).map (fun d => d.parameters.length) = some n) (hn : As.length = n) (hR : (rm'.frames + 1 ≤ rm.frames ∧ 8 + (maxL + 11) + rm'.locals ≤ rm.locals) ∧ rm'.cells = 0 ∧ rm'.slots = 0) (hcat : (st.map fun v => v.category).sum ≤ 8) (hd : decode cc pc = .ok (.invokestatic idx, 3)) (K : ∀ (r : Unit) (σ1 : fh_S), fh_Go E M nL vw (pc + 3) lv (st) σ1 (X r σ1)) : fh_Go E M nL vw pc lv st0 σ (fh_cb F X) := go_callS C As hM hst hw hd' hn hR hcat hd K
theorem go_callSR {F : Option (Option Nat × fh_S)} {X : Option Nat → fh_S → Option (α × fh_S)} (C : fh_Cx E M cc nL own rt rm) (As : List Value) (hM : fh_Met E M.2.1 y bytes maxL ret rm' (fh_vR E) As σ F) (hst : st0 = As.reverse ++ st) (hw : Cond.methodLink own idx y ∈ fh_T ∧ Cond.static y ∈ fh_T ∧ Cond.initialized y.cls ∈ fh_T ∧ Cond.code y bytes maxL ret ∈ fh_T) (hd' : y.cls ≠ "java/lang/invoke/MethodHandle" ∧ y.cls ≠ "java/lang/invoke/VarHandle" ∧ (parseMethodDescriptor y.desc).map (fun d => d.parameters.length) = some n) (hn : As.length = n) (hR : (rm'.frames + 1 ≤ rm.frames ∧ 8 + (maxL + 11) + rm'.locals ≤ rm.locals) ∧ rm'.cells = 0 ∧ rm'.slots = 0) (hcat : (st.map fun v => v.category).sum ≤ 8) (hd : decode cc pc = .ok (.invokestatic idx, 3)) (K : ∀ (r : Option Nat) (σ1 : fh_S), fh_Go E M nL vw (pc + 3) lv (va_rf (r.map (fh_ad E)) :: st) σ1 (X r σ1)) : fh_Go E M nL vw pc lv st0 σ (fh_cb F X) := go_callS C As hM hst hw hd' hn hR hcat hd K
theorem go_callSG {F : Option (Nat × fh_S)} {X : Nat → fh_S → Option (α × fh_S)} (C : fh_Cx E M cc nL own rt rm) (As : List Value) (hM : fh_Met E M.2.1 y bytes maxL ret rm' (fh_vS E) As σ F) (hst : st0 = As.reverse ++ st) (hw : Cond.methodLink own idx y ∈ fh_T ∧ Cond.static y ∈ fh_T ∧ Cond.initialized y.cls ∈ fh_T ∧ Cond.code y bytes maxL ret ∈ fh_T) (hd' : y.cls ≠ "java/lang/invoke/MethodHandle" ∧ y.cls ≠ "java/lang/invoke/VarHandle" ∧ (parseMethodDescriptor y.desc).map (fun d => d.parameters.length) = some n) (hn : As.length = n) (hR : (rm'.frames + 1 ≤ rm.frames ∧ 8 + (maxL + 11) + rm'.locals ≤ rm.locals) ∧ rm'.cells = 0 ∧ rm'.slots = 0) (hcat : (st.map fun v => v.category).sum ≤ 8) (hd : decode cc pc = .ok (.invokestatic idx, 3)) (K : ∀ (r : Nat) (σ1 : fh_S), fh_Go E M nL vw (pc + 3) lv (.ref (fh_aK E r) :: st) σ1 (X r σ1)) : fh_Go E M nL vw pc lv st0 σ (fh_cb F X) := go_callS C As hM hst hw hd' hn hR hcat hd K
theorem go_callNI {F : Option (Int32 × fh_S)} {X : Int32 → fh_S → Option (α × fh_S)} (C : fh_Cx E M cc nL own rt rm) (As : List Value) (hM : fh_Met E M.2.1 y bytes maxL ret rm' fh_vI As σ F) (hst : st0 = As.reverse ++ st) (hw : Cond.methodLinkNest own idx y "FollowedHours" ∈ fh_nest ∧ Cond.static y ∈ fh_T ∧ Cond.initialized y.cls ∈ fh_T ∧ Cond.code y bytes maxL ret ∈ fh_T) (hd' : y.cls ≠ "java/lang/invoke/MethodHandle" ∧ y.cls ≠ "java/lang/invoke/VarHandle" ∧ (parseMethodDescriptor y.desc).map (fun d => d.parameters.length) = some n) (hn : As.length = n) (hR : (rm'.frames + 1 ≤ rm.frames ∧ 8 + (maxL + 11) + rm'.locals ≤ rm.locals) ∧ rm'.cells = 0 ∧ rm'.slots = 0) (hcat : (st.map fun v => v.category).sum ≤ 8) (hd : decode cc pc = .ok (.invokestatic idx, 3)) (K : ∀ (r : Int32) (σ1 : fh_S), fh_Go E M nL vw (pc + 3) lv (.int r :: st) σ1 (X r σ1)) : fh_Go E M nL vw pc lv st0 σ (fh_cb F X) := go_callN C As "FollowedHours" hM hst hw hd' hn hR hcat hd K

end FHMORE
end
section
set_option maxRecDepth 100000 in
theorem qs_0 : Cond.selects "FollowedHours" (⟨"FollowedHours", "tell", "(I)I"⟩ : MethodName) (⟨"FollowedHours", "tell", "(I)I"⟩ : MethodName) ∈ fh_T := fh_Tsel 0 (by decide +kernel) rfl
set_option maxRecDepth 100000 in
theorem qs_1 : Cond.selects "FollowedHours$Garden" (⟨"FollowedHours$Garden", "paceBehind", "(II)I"⟩ : MethodName) (⟨"FollowedHours$Garden", "paceBehind", "(II)I"⟩ : MethodName) ∈ fh_T := fh_Tsel 1 (by decide +kernel) rfl
set_option maxRecDepth 100000 in
theorem qs_2 : Cond.selects "FollowedHours$Garden" (⟨"FollowedHours$Garden", "setWhere", "([II)I"⟩ : MethodName) (⟨"FollowedHours$Garden", "setWhere", "([II)I"⟩ : MethodName) ∈ fh_T := fh_Tsel 2 (by decide +kernel) rfl
set_option maxRecDepth 100000 in
theorem qs_3 : Cond.selects "FollowedHours" (⟨"FollowedHours", "tryTicks", "(I)V"⟩ : MethodName) (⟨"FollowedHours", "tryTicks", "(I)V"⟩ : MethodName) ∈ fh_T := fh_Tsel 3 (by decide +kernel) rfl
set_option maxRecDepth 100000 in
theorem qs_4 : Cond.selects "FollowedHours" (⟨"FollowedHours", "distanceAs", "(III)I"⟩ : MethodName) (⟨"FollowedHours", "distanceAs", "(III)I"⟩ : MethodName) ∈ fh_T := fh_Tsel 4 (by decide +kernel) rfl
set_option maxRecDepth 100000 in
theorem qs_5 : Cond.selects "FollowedHours" (⟨"FollowedHours", "findingOfSheet", "(I)I"⟩ : MethodName) (⟨"FollowedHours", "findingOfSheet", "(I)I"⟩ : MethodName) ∈ fh_T := fh_Tsel 5 (by decide +kernel) rfl
set_option maxRecDepth 100000 in
theorem qs_6 : Cond.selects "FollowedHours" (⟨"FollowedHours", "triedShowsAs", "(LFollowedHours$Sheet;I)Z"⟩ : MethodName) (⟨"FollowedHours", "triedShowsAs", "(LFollowedHours$Sheet;I)Z"⟩ : MethodName) ∈ fh_T := fh_Tsel 6 (by decide +kernel) rfl
set_option maxRecDepth 100000 in
theorem qs_7 : Cond.selects "FollowedHours" (⟨"FollowedHours", "stillIfStopped", "(II)I"⟩ : MethodName) (⟨"FollowedHours", "stillIfStopped", "(II)I"⟩ : MethodName) ∈ fh_T := fh_Tsel 7 (by decide +kernel) rfl
set_option maxRecDepth 100000 in
theorem qs_8 : Cond.selects "FollowedHours$Reader" (⟨"FollowedHours$Reader", "findToken", "()V"⟩ : MethodName) (⟨"FollowedHours$Reader", "findToken", "()V"⟩ : MethodName) ∈ fh_T := fh_Tsel 8 (by decide +kernel) rfl
set_option maxRecDepth 100000 in
theorem qs_9 : Cond.selects "FollowedHours$Reader" (⟨"FollowedHours$Reader", "readLetters", "()V"⟩ : MethodName) (⟨"FollowedHours$Reader", "readLetters", "()V"⟩ : MethodName) ∈ fh_T := fh_Tsel 9 (by decide +kernel) rfl
set_option maxRecDepth 100000 in
theorem qs_10 : Cond.selects "FollowedHours$Reader" (⟨"FollowedHours$Reader", "readDigits", "()V"⟩ : MethodName) (⟨"FollowedHours$Reader", "readDigits", "()V"⟩ : MethodName) ∈ fh_T := fh_Tsel 10 (by decide +kernel) rfl
set_option maxRecDepth 100000 in
theorem qs_11 : Cond.selects "FollowedHours$Reader" (⟨"FollowedHours$Reader", "takeWord", "(Ljava/lang/String;)Z"⟩ : MethodName) (⟨"FollowedHours$Reader", "takeWord", "(Ljava/lang/String;)Z"⟩ : MethodName) ∈ fh_T := fh_Tsel 11 (by decide +kernel) rfl
set_option maxRecDepth 100000 in
theorem qs_12 : Cond.selects "FollowedHours$Reader" (⟨"FollowedHours$Reader", "isWord", "(Ljava/lang/String;)Z"⟩ : MethodName) (⟨"FollowedHours$Reader", "isWord", "(Ljava/lang/String;)Z"⟩ : MethodName) ∈ fh_T := fh_Tsel 12 (by decide +kernel) rfl
set_option maxRecDepth 100000 in
theorem qs_13 : Cond.selects "FollowedHours$Reader" (⟨"FollowedHours$Reader", "readMaster", "(LFollowedHours$Garden;)V"⟩ : MethodName) (⟨"FollowedHours$Reader", "readMaster", "(LFollowedHours$Garden;)V"⟩ : MethodName) ∈ fh_T := fh_Tsel 13 (by decide +kernel) rfl
set_option maxRecDepth 100000 in
theorem qs_14 : Cond.selects "FollowedHours$Reader" (⟨"FollowedHours$Reader", "takeNumber", "(I)I"⟩ : MethodName) (⟨"FollowedHours$Reader", "takeNumber", "(I)I"⟩ : MethodName) ∈ fh_T := fh_Tsel 14 (by decide +kernel) rfl
set_option maxRecDepth 100000 in
theorem qs_15 : Cond.selects "FollowedHours$Reader" (⟨"FollowedHours$Reader", "refuse", "()V"⟩ : MethodName) (⟨"FollowedHours$Reader", "refuse", "()V"⟩ : MethodName) ∈ fh_T := fh_Tsel 15 (by decide +kernel) rfl
set_option maxRecDepth 100000 in
theorem qs_16 : Cond.selects "FollowedHours$Reader" (⟨"FollowedHours$Reader", "readDial", "(LFollowedHours$Garden;)V"⟩ : MethodName) (⟨"FollowedHours$Reader", "readDial", "(LFollowedHours$Garden;)V"⟩ : MethodName) ∈ fh_T := fh_Tsel 16 (by decide +kernel) rfl
set_option maxRecDepth 100000 in
theorem qs_17 : Cond.selects "FollowedHours$Reader" (⟨"FollowedHours$Reader", "kindOfWord", "()I"⟩ : MethodName) (⟨"FollowedHours$Reader", "kindOfWord", "()I"⟩ : MethodName) ∈ fh_T := fh_Tsel 17 (by decide +kernel) rfl
set_option maxRecDepth 100000 in
theorem qs_18 : Cond.selects "FollowedHours$Reader" (⟨"FollowedHours$Reader", "takeSign", "(C)Z"⟩ : MethodName) (⟨"FollowedHours$Reader", "takeSign", "(C)Z"⟩ : MethodName) ∈ fh_T := fh_Tsel 18 (by decide +kernel) rfl
set_option maxRecDepth 100000 in
theorem qs_19 : Cond.selects "FollowedHoursModel" (⟨"FollowedHoursModel", "finding", "(I)I"⟩ : MethodName) (⟨"FollowedHoursModel", "finding", "(I)I"⟩ : MethodName) ∈ fh_T := fh_Tsel 19 (by decide +kernel) rfl
set_option maxRecDepth 100000 in
theorem qs_20 : Cond.selects "FollowedHoursModel" (⟨"FollowedHoursModel", "comes", "(IIIIII)I"⟩ : MethodName) (⟨"FollowedHoursModel", "comes", "(IIIIII)I"⟩ : MethodName) ∈ fh_T := fh_Tsel 20 (by decide +kernel) rfl
set_option maxRecDepth 100000 in
theorem qs_21 : Cond.selects "FollowedHoursModel" (⟨"FollowedHoursModel", "isDial", "(I)Z"⟩ : MethodName) (⟨"FollowedHoursModel", "isDial", "(I)Z"⟩ : MethodName) ∈ fh_T := fh_Tsel 21 (by decide +kernel) rfl
set_option maxRecDepth 100000 in
theorem qs_22 : Cond.selects "FollowedHoursModel" (⟨"FollowedHoursModel", "pace", "(I)I"⟩ : MethodName) (⟨"FollowedHoursModel", "pace", "(I)I"⟩ : MethodName) ∈ fh_T := fh_Tsel 22 (by decide +kernel) rfl
set_option maxRecDepth 100000 in
theorem qs_23 : Cond.selects "FollowedHoursModel" (⟨"FollowedHoursModel", "plainPace", "(I)I"⟩ : MethodName) (⟨"FollowedHoursModel", "plainPace", "(I)I"⟩ : MethodName) ∈ fh_T := fh_Tsel 23 (by decide +kernel) rfl
set_option maxRecDepth 100000 in
theorem qs_24 : Cond.selects "FollowedHoursModel" (⟨"FollowedHoursModel", "dialIs", "(II)I"⟩ : MethodName) (⟨"FollowedHoursModel", "dialIs", "(II)I"⟩ : MethodName) ∈ fh_T := fh_Tsel 24 (by decide +kernel) rfl
set_option maxRecDepth 100000 in
theorem qs_25 : Cond.selects "FollowedHoursModel" (⟨"FollowedHoursModel", "isStopped", "(I)Z"⟩ : MethodName) (⟨"FollowedHoursModel", "isStopped", "(I)Z"⟩ : MethodName) ∈ fh_T := fh_Tsel 25 (by decide +kernel) rfl
set_option maxRecDepth 100000 in
theorem qs_26 : Cond.selects "FollowedHoursModel" (⟨"FollowedHoursModel", "mayBe", "(II)Z"⟩ : MethodName) (⟨"FollowedHoursModel", "mayBe", "(II)Z"⟩ : MethodName) ∈ fh_T := fh_Tsel 26 (by decide +kernel) rfl
set_option maxRecDepth 100000 in
theorem qs_27 : Cond.selects "FollowedHoursModel" (⟨"FollowedHoursModel", "become", "(II)I"⟩ : MethodName) (⟨"FollowedHoursModel", "become", "(II)I"⟩ : MethodName) ∈ fh_T := fh_Tsel 27 (by decide +kernel) rfl
set_option maxRecDepth 100000 in
theorem qs_28 : Cond.selects "FollowedHoursModel" (⟨"FollowedHoursModel", "stops", "(II)Z"⟩ : MethodName) (⟨"FollowedHoursModel", "stops", "(II)Z"⟩ : MethodName) ∈ fh_T := fh_Tsel 28 (by decide +kernel) rfl
set_option maxRecDepth 100000 in
theorem qs_29 : Cond.selects "FollowedHoursModel" (⟨"FollowedHoursModel", "ticks", "(I)V"⟩ : MethodName) (⟨"FollowedHoursModel", "ticks", "(I)V"⟩ : MethodName) ∈ fh_T := fh_Tsel 29 (by decide +kernel) rfl
set_option maxRecDepth 100000 in
theorem qs_30 : Cond.selects "FollowedHoursModel" (⟨"FollowedHoursModel", "tick", "()V"⟩ : MethodName) (⟨"FollowedHoursModel", "tick", "()V"⟩ : MethodName) ∈ fh_T := fh_Tsel 30 (by decide +kernel) rfl
set_option maxRecDepth 100000 in
theorem qs_31 : Cond.selects "FollowedHoursModel" (⟨"FollowedHoursModel", "stoppedNow", "()I"⟩ : MethodName) (⟨"FollowedHoursModel", "stoppedNow", "()I"⟩ : MethodName) ∈ fh_T := fh_Tsel 31 (by decide +kernel) rfl
set_option maxRecDepth 100000 in
theorem qs_32 : Cond.selects "FollowedHoursModel" (⟨"FollowedHoursModel", "stillNow", "()I"⟩ : MethodName) (⟨"FollowedHoursModel", "stillNow", "()I"⟩ : MethodName) ∈ fh_T := fh_Tsel 32 (by decide +kernel) rfl
set_option maxRecDepth 100000 in
theorem qs_33 : Cond.selects "FollowedHoursModel" (⟨"FollowedHoursModel", "ownNow", "()I"⟩ : MethodName) (⟨"FollowedHoursModel", "ownNow", "()I"⟩ : MethodName) ∈ fh_T := fh_Tsel 33 (by decide +kernel) rfl
set_option maxRecDepth 100000 in
theorem qs_34 : Cond.selects "FollowedHoursModel" (⟨"FollowedHoursModel", "sumOf", "(I)I"⟩ : MethodName) (⟨"FollowedHoursModel", "sumOf", "(I)I"⟩ : MethodName) ∈ fh_T := fh_Tsel 34 (by decide +kernel) rfl
set_option maxRecDepth 100000 in
theorem qs_35 : Cond.selects "FollowedHoursModel" (⟨"FollowedHoursModel", "manyShow", "(I)I"⟩ : MethodName) (⟨"FollowedHoursModel", "manyShow", "(I)I"⟩ : MethodName) ∈ fh_T := fh_Tsel 35 (by decide +kernel) rfl
set_option maxRecDepth 100000 in
theorem qs_36 : Cond.selects "FollowedHoursModel" (⟨"FollowedHoursModel", "whoShow", "(I)I"⟩ : MethodName) (⟨"FollowedHoursModel", "whoShow", "(I)I"⟩ : MethodName) ∈ fh_T := fh_Tsel 36 (by decide +kernel) rfl
set_option maxRecDepth 100000 in
theorem qs_37 : Cond.selects "FollowedHoursModel" (⟨"FollowedHoursModel", "wayOf", "(I)I"⟩ : MethodName) (⟨"FollowedHoursModel", "wayOf", "(I)I"⟩ : MethodName) ∈ fh_T := fh_Tsel 37 (by decide +kernel) rfl
set_option maxRecDepth 100000 in
theorem qs_38 : Cond.selects "FollowedHoursModel" (⟨"FollowedHoursModel", "ringOf", "(I)I"⟩ : MethodName) (⟨"FollowedHoursModel", "ringOf", "(I)I"⟩ : MethodName) ∈ fh_T := fh_Tsel 38 (by decide +kernel) rfl
set_option maxRecDepth 100000 in
theorem qs_39 : Cond.selects "FollowedHoursModel" (⟨"FollowedHoursModel", "manyRings", "()I"⟩ : MethodName) (⟨"FollowedHoursModel", "manyRings", "()I"⟩ : MethodName) ∈ fh_T := fh_Tsel 39 (by decide +kernel) rfl
set_option maxRecDepth 100000 in
theorem qs_40 : Cond.selects "FollowedHoursModel" (⟨"FollowedHoursModel", "underOf", "(I)I"⟩ : MethodName) (⟨"FollowedHoursModel", "underOf", "(I)I"⟩ : MethodName) ∈ fh_T := fh_Tsel 40 (by decide +kernel) rfl
set_option maxRecDepth 100000 in
theorem qs_41 : Cond.selects "FollowedHoursModel" (⟨"FollowedHoursModel", "orNone", "(I)I"⟩ : MethodName) (⟨"FollowedHoursModel", "orNone", "(I)I"⟩ : MethodName) ∈ fh_T := fh_Tsel 41 (by decide +kernel) rfl
set_option maxRecDepth 100000 in
theorem qs_42 : Cond.selects "FollowedHoursModel" (⟨"FollowedHoursModel", "behind", "(III)I"⟩ : MethodName) (⟨"FollowedHoursModel", "behind", "(III)I"⟩ : MethodName) ∈ fh_T := fh_Tsel 42 (by decide +kernel) rfl
set_option maxRecDepth 100000 in
theorem qs_43 : Cond.selects "FollowedHoursModel" (⟨"FollowedHoursModel", "putBack", "(I)I"⟩ : MethodName) (⟨"FollowedHoursModel", "putBack", "(I)I"⟩ : MethodName) ∈ fh_T := fh_Tsel 43 (by decide +kernel) rfl
set_option maxRecDepth 100000 in
theorem qs_44 : Cond.selects "FollowedHoursModel" (⟨"FollowedHoursModel", "isSettled", "()Z"⟩ : MethodName) (⟨"FollowedHoursModel", "isSettled", "()Z"⟩ : MethodName) ∈ fh_T := fh_Tsel 44 (by decide +kernel) rfl
set_option maxRecDepth 100000 in
theorem qs_45 : Cond.selects "FollowedHoursModel" (⟨"FollowedHoursModel", "farIn", "(II)I"⟩ : MethodName) (⟨"FollowedHoursModel", "farIn", "(II)I"⟩ : MethodName) ∈ fh_T := fh_Tsel 45 (by decide +kernel) rfl
set_option maxRecDepth 100000 in
theorem qs_46 : Cond.selects "FollowedHoursModel" (⟨"FollowedHoursModel", "mostShown", "()I"⟩ : MethodName) (⟨"FollowedHoursModel", "mostShown", "()I"⟩ : MethodName) ∈ fh_T := fh_Tsel 46 (by decide +kernel) rfl
set_option maxRecDepth 100000 in
theorem qs_47 : Cond.selects "FollowedHoursModel" (⟨"FollowedHoursModel", "rightBehind", "(I)I"⟩ : MethodName) (⟨"FollowedHoursModel", "rightBehind", "(I)I"⟩ : MethodName) ∈ fh_T := fh_Tsel 47 (by decide +kernel) rfl
set_option maxRecDepth 100000 in
theorem qs_48 : Cond.selects "FollowedHoursModel" (⟨"FollowedHoursModel", "lacks", "(I)I"⟩ : MethodName) (⟨"FollowedHoursModel", "lacks", "(I)I"⟩ : MethodName) ∈ fh_T := fh_Tsel 48 (by decide +kernel) rfl
set_option maxRecDepth 100000 in
theorem qs_49 : Cond.selects "FollowedHoursModel" (⟨"FollowedHoursModel", "fitting", "(IIII)I"⟩ : MethodName) (⟨"FollowedHoursModel", "fitting", "(IIII)I"⟩ : MethodName) ∈ fh_T := fh_Tsel 49 (by decide +kernel) rfl
set_option maxRecDepth 100000 in
theorem qs_50 : Cond.selects "FollowedHoursModel" (⟨"FollowedHoursModel", "isShownSo", "(II)Z"⟩ : MethodName) (⟨"FollowedHoursModel", "isShownSo", "(II)Z"⟩ : MethodName) ∈ fh_T := fh_Tsel 50 (by decide +kernel) rfl
set_option maxRecDepth 100000 in
theorem qs_51 : Cond.selects "FollowedHoursModel" (⟨"FollowedHoursModel", "stillWith", "(II)I"⟩ : MethodName) (⟨"FollowedHoursModel", "stillWith", "(II)I"⟩ : MethodName) ∈ fh_T := fh_Tsel 51 (by decide +kernel) rfl
set_option maxRecDepth 100000 in
theorem qs_52 : Cond.selects "FollowedHoursModel" (⟨"FollowedHoursModel", "drawn", "()I"⟩ : MethodName) (⟨"FollowedHoursModel", "drawn", "()I"⟩ : MethodName) ∈ fh_T := fh_Tsel 52 (by decide +kernel) rfl
set_option maxRecDepth 100000 in
theorem qs_53 : Cond.selects "FollowedHoursModel" (⟨"FollowedHoursModel", "next", "()V"⟩ : MethodName) (⟨"FollowedHoursModel", "next", "()V"⟩ : MethodName) ∈ fh_T := fh_Tsel 53 (by decide +kernel) rfl
set_option maxRecDepth 100000 in
theorem qs_54 : Cond.selects "FollowedHoursModel" (⟨"FollowedHoursModel", "byteAt", "(I)I"⟩ : MethodName) (⟨"FollowedHoursModel", "byteAt", "(I)I"⟩ : MethodName) ∈ fh_T := fh_Tsel 54 (by decide +kernel) rfl
set_option maxRecDepth 100000 in
theorem qs_55 : Cond.selects "FollowedHoursModel" (⟨"FollowedHoursModel", "readItem", "()V"⟩ : MethodName) (⟨"FollowedHoursModel", "readItem", "()V"⟩ : MethodName) ∈ fh_T := fh_Tsel 55 (by decide +kernel) rfl
set_option maxRecDepth 100000 in
theorem qs_56 : Cond.selects "FollowedHoursModel" (⟨"FollowedHoursModel", "kindTold", "()I"⟩ : MethodName) (⟨"FollowedHoursModel", "kindTold", "()I"⟩ : MethodName) ∈ fh_T := fh_Tsel 56 (by decide +kernel) rfl
set_option maxRecDepth 100000 in
theorem qs_57 : Cond.selects "FollowedHoursModel" (⟨"FollowedHoursModel", "isWord", "(Ljava/lang/String;)Z"⟩ : MethodName) (⟨"FollowedHoursModel", "isWord", "(Ljava/lang/String;)Z"⟩ : MethodName) ∈ fh_T := fh_Tsel 57 (by decide +kernel) rfl
set_option maxRecDepth 100000 in
theorem qs_58 : Cond.selects "FollowedHoursModel" (⟨"FollowedHoursModel", "must", "(Z)V"⟩ : MethodName) (⟨"FollowedHoursModel", "must", "(Z)V"⟩ : MethodName) ∈ fh_T := fh_Tsel 58 (by decide +kernel) rfl
set_option maxRecDepth 100000 in
theorem qs_59 : Cond.selects "FollowedHoursModel" (⟨"FollowedHoursModel", "isNext", "(Ljava/lang/String;)Z"⟩ : MethodName) (⟨"FollowedHoursModel", "isNext", "(Ljava/lang/String;)Z"⟩ : MethodName) ∈ fh_T := fh_Tsel 59 (by decide +kernel) rfl
set_option maxRecDepth 100000 in
theorem qs_60 : Cond.selects "FollowedHoursModel" (⟨"FollowedHoursModel", "number", "(II)I"⟩ : MethodName) (⟨"FollowedHoursModel", "number", "(II)I"⟩ : MethodName) ∈ fh_T := fh_Tsel 60 (by decide +kernel) rfl
set_option maxRecDepth 100000 in
theorem qs_61 : Cond.selects "FollowedHoursModel" (⟨"FollowedHoursModel", "goesTold", "()I"⟩ : MethodName) (⟨"FollowedHoursModel", "goesTold", "()I"⟩ : MethodName) ∈ fh_T := fh_Tsel 61 (by decide +kernel) rfl
set_option maxRecDepth 100000 in
theorem qs_62 : Cond.selects "FollowedHoursModel" (⟨"FollowedHoursModel", "item", "(IIIIII)V"⟩ : MethodName) (⟨"FollowedHoursModel", "item", "(IIIIII)V"⟩ : MethodName) ∈ fh_T := fh_Tsel 62 (by decide +kernel) rfl
set_option maxRecDepth 100000 in
theorem qs_63 : Cond.selects "FollowedHoursModel" (⟨"FollowedHoursModel", "isToldSo", "(I)I"⟩ : MethodName) (⟨"FollowedHoursModel", "isToldSo", "(I)I"⟩ : MethodName) ∈ fh_T := fh_Tsel 63 (by decide +kernel) rfl
set_option maxRecDepth 100000 in
theorem q_1 : (Cond.initialized "FollowedHours") ∈ fh_T := fh_Tin 1 (by decide +kernel) rfl
set_option maxRecDepth 100000 in
theorem q_2 : (Cond.initialized "FollowedHours$Garden") ∈ fh_T := fh_Tin 2 (by decide +kernel) rfl
set_option maxRecDepth 100000 in
theorem q_3 : (Cond.initialized "FollowedHours$Tape") ∈ fh_T := fh_Tin 3 (by decide +kernel) rfl
set_option maxRecDepth 100000 in
theorem q_4 : (Cond.initialized "FollowedHours$Reader") ∈ fh_T := fh_Tin 4 (by decide +kernel) rfl
set_option maxRecDepth 100000 in
theorem q_5 : (Cond.initialized "FollowedHours$Sheet") ∈ fh_T := fh_Tin 5 (by decide +kernel) rfl
set_option maxRecDepth 100000 in
theorem q_6 : (Cond.initialized "FollowedHoursModel") ∈ fh_T := fh_Tin 6 (by decide +kernel) rfl
set_option maxRecDepth 100000 in
theorem q_7 : (Cond.initialized "java/lang/Math") ∈ fh_T := fh_Tin 7 (by decide +kernel) rfl
set_option maxRecDepth 100000 in
theorem q_8 : (Cond.initialized "java/lang/Integer") ∈ fh_T := fh_Tin 8 (by decide +kernel) rfl
set_option maxRecDepth 100000 in
theorem q_9 : (Cond.initialized "java/lang/System") ∈ fh_T := fh_Tin 9 (by decide +kernel) rfl
set_option maxRecDepth 100000 in
theorem q_10 : (Cond.initialized "java/lang/String") ∈ fh_T := fh_Tin 10 (by decide +kernel) rfl
set_option maxRecDepth 100000 in
theorem q_11 : (Cond.initialized "java/lang/StringLatin1") ∈ fh_T := fh_Tin 11 (by decide +kernel) rfl
set_option maxRecDepth 100000 in
theorem q_12 : (Cond.initialized "jdk/internal/util/Preconditions") ∈ fh_T := fh_Tin 12 (by decide +kernel) rfl
set_option maxRecDepth 100000 in
theorem q_28 : (Cond.fieldLink "FollowedHours$Garden" (9 : Nat) "FollowedHours$Garden" "kindOf" "[I") ∈ fh_T := fh_Tin 28 (by decide +kernel) rfl
set_option maxRecDepth 100000 in
theorem q_29 : (Cond.fieldLink "FollowedHours" (197 : Nat) "FollowedHours$Garden" "kindOf" "[I") ∈ fh_T := fh_Tin 29 (by decide +kernel) rfl
set_option maxRecDepth 100000 in
theorem q_30 : (Cond.fieldLink "FollowedHours$Garden" (15 : Nat) "FollowedHours$Garden" "hourOf" "[I") ∈ fh_T := fh_Tin 30 (by decide +kernel) rfl
set_option maxRecDepth 100000 in
theorem q_31 : (Cond.fieldLink "FollowedHours$Reader" (74 : Nat) "FollowedHours$Garden" "hourOf" "[I") ∈ fh_T := fh_Tin 31 (by decide +kernel) rfl
set_option maxRecDepth 100000 in
theorem q_32 : (Cond.fieldLink "FollowedHours" (92 : Nat) "FollowedHours$Garden" "hourOf" "[I") ∈ fh_T := fh_Tin 32 (by decide +kernel) rfl
set_option maxRecDepth 100000 in
theorem q_33 : (Cond.fieldLink "FollowedHours$Garden" (18 : Nat) "FollowedHours$Garden" "masterOf" "[I") ∈ fh_T := fh_Tin 33 (by decide +kernel) rfl
set_option maxRecDepth 100000 in
theorem q_34 : (Cond.fieldLink "FollowedHours$Reader" (57 : Nat) "FollowedHours$Garden" "masterOf" "[I") ∈ fh_T := fh_Tin 34 (by decide +kernel) rfl
set_option maxRecDepth 100000 in
theorem q_35 : (Cond.fieldLink "FollowedHours" (190 : Nat) "FollowedHours$Garden" "masterOf" "[I") ∈ fh_T := fh_Tin 35 (by decide +kernel) rfl
set_option maxRecDepth 100000 in
theorem q_36 : (Cond.fieldLink "FollowedHours$Garden" (21 : Nat) "FollowedHours$Garden" "goingOf" "[I") ∈ fh_T := fh_Tin 36 (by decide +kernel) rfl
set_option maxRecDepth 100000 in
theorem q_37 : (Cond.fieldLink "FollowedHours$Reader" (81 : Nat) "FollowedHours$Garden" "goingOf" "[I") ∈ fh_T := fh_Tin 37 (by decide +kernel) rfl
set_option maxRecDepth 100000 in
theorem q_38 : (Cond.fieldLink "FollowedHours" (121 : Nat) "FollowedHours$Garden" "goingOf" "[I") ∈ fh_T := fh_Tin 38 (by decide +kernel) rfl
set_option maxRecDepth 100000 in
theorem q_39 : (Cond.fieldLink "FollowedHours$Garden" (24 : Nat) "FollowedHours$Garden" "stopOf" "[I") ∈ fh_T := fh_Tin 39 (by decide +kernel) rfl
set_option maxRecDepth 100000 in
theorem q_40 : (Cond.fieldLink "FollowedHours$Garden" (27 : Nat) "FollowedHours$Garden" "mossOf" "[I") ∈ fh_T := fh_Tin 40 (by decide +kernel) rfl
set_option maxRecDepth 100000 in
theorem q_41 : (Cond.fieldLink "FollowedHours$Reader" (86 : Nat) "FollowedHours$Garden" "mossOf" "[I") ∈ fh_T := fh_Tin 41 (by decide +kernel) rfl
set_option maxRecDepth 100000 in
theorem q_42 : (Cond.fieldLink "FollowedHours$Garden" (30 : Nat) "FollowedHours$Garden" "spots" "[I") ∈ fh_T := fh_Tin 42 (by decide +kernel) rfl
set_option maxRecDepth 100000 in
theorem q_43 : (Cond.fieldLink "FollowedHours" (224 : Nat) "FollowedHours$Garden" "spots" "[I") ∈ fh_T := fh_Tin 43 (by decide +kernel) rfl
set_option maxRecDepth 100000 in
theorem q_44 : (Cond.fieldLink "FollowedHours$Garden" (33 : Nat) "FollowedHours$Garden" "nextGoing" "[I") ∈ fh_T := fh_Tin 44 (by decide +kernel) rfl
set_option maxRecDepth 100000 in
theorem q_45 : (Cond.fieldLink "FollowedHours$Garden" (36 : Nat) "FollowedHours$Garden" "markedGoing" "[I") ∈ fh_T := fh_Tin 45 (by decide +kernel) rfl
set_option maxRecDepth 100000 in
theorem q_46 : (Cond.fieldLink "FollowedHours$Garden" (39 : Nat) "FollowedHours$Garden" "size" "I") ∈ fh_T := fh_Tin 46 (by decide +kernel) rfl
set_option maxRecDepth 100000 in
theorem q_47 : (Cond.fieldLink "FollowedHours$Reader" (48 : Nat) "FollowedHours$Garden" "size" "I") ∈ fh_T := fh_Tin 47 (by decide +kernel) rfl
set_option maxRecDepth 100000 in
theorem q_48 : (Cond.fieldLink "FollowedHours" (136 : Nat) "FollowedHours$Garden" "size" "I") ∈ fh_T := fh_Tin 48 (by decide +kernel) rfl
set_option maxRecDepth 100000 in
theorem q_49 : (Cond.fieldLink "FollowedHours$Garden" (43 : Nat) "FollowedHours$Garden" "tick" "I") ∈ fh_T := fh_Tin 49 (by decide +kernel) rfl
set_option maxRecDepth 100000 in
theorem q_50 : (Cond.fieldLink "FollowedHours" (101 : Nat) "FollowedHours$Garden" "tick" "I") ∈ fh_T := fh_Tin 50 (by decide +kernel) rfl
set_option maxRecDepth 100000 in
theorem q_51 : (Cond.fieldLink "FollowedHours$Garden" (46 : Nat) "FollowedHours$Garden" "drawn" "I") ∈ fh_T := fh_Tin 51 (by decide +kernel) rfl
set_option maxRecDepth 100000 in
theorem q_52 : (Cond.fieldLink "FollowedHours" (210 : Nat) "FollowedHours$Garden" "drawn" "I") ∈ fh_T := fh_Tin 52 (by decide +kernel) rfl
set_option maxRecDepth 100000 in
theorem q_85 : (Cond.fieldLink "FollowedHours$Tape" (9 : Nat) "FollowedHours$Tape" "bytes" "[I") ∈ fh_T := fh_Tin 85 (by decide +kernel) rfl
set_option maxRecDepth 100000 in
theorem q_86 : (Cond.fieldLink "FollowedHours$Tape" (15 : Nat) "FollowedHours$Tape" "size" "I") ∈ fh_T := fh_Tin 86 (by decide +kernel) rfl
set_option maxRecDepth 100000 in
theorem q_87 : (Cond.fieldLink "FollowedHours" (213 : Nat) "FollowedHours$Tape" "size" "I") ∈ fh_T := fh_Tin 87 (by decide +kernel) rfl
set_option maxRecDepth 100000 in
theorem q_99 : (Cond.fieldLink "FollowedHours$Reader" (9 : Nat) "FollowedHours$Reader" "tape" "LFollowedHours$Tape;") ∈ fh_T := fh_Tin 99 (by decide +kernel) rfl
set_option maxRecDepth 100000 in
theorem q_100 : (Cond.fieldLink "FollowedHours$Reader" (42 : Nat) "FollowedHours$Reader" "sort" "I") ∈ fh_T := fh_Tin 100 (by decide +kernel) rfl
set_option maxRecDepth 100000 in
theorem q_101 : (Cond.fieldLink "FollowedHours$Reader" (95 : Nat) "FollowedHours$Reader" "begin" "I") ∈ fh_T := fh_Tin 101 (by decide +kernel) rfl
set_option maxRecDepth 100000 in
theorem q_102 : (Cond.fieldLink "FollowedHours$Reader" (19 : Nat) "FollowedHours$Reader" "end" "I") ∈ fh_T := fh_Tin 102 (by decide +kernel) rfl
set_option maxRecDepth 100000 in
theorem q_103 : (Cond.fieldLink "FollowedHours$Reader" (106 : Nat) "FollowedHours$Reader" "value" "I") ∈ fh_T := fh_Tin 103 (by decide +kernel) rfl
set_option maxRecDepth 100000 in
theorem q_104 : (Cond.fieldLink "FollowedHours$Reader" (15 : Nat) "FollowedHours$Reader" "fault" "I") ∈ fh_T := fh_Tin 104 (by decide +kernel) rfl
set_option maxRecDepth 100000 in
theorem q_125 : (Cond.fieldLink "FollowedHours$Sheet" (9 : Nat) "FollowedHours$Sheet" "numbers" "[I") ∈ fh_T := fh_Tin 125 (by decide +kernel) rfl
set_option maxRecDepth 100000 in
theorem q_126 : (Cond.fieldLink "FollowedHours" (252 : Nat) "FollowedHours$Sheet" "numbers" "[I") ∈ fh_T := fh_Tin 126 (by decide +kernel) rfl
set_option maxRecDepth 100000 in
theorem q_127 : (Cond.fieldLink "FollowedHours$Sheet" (15 : Nat) "FollowedHours$Sheet" "bits" "I") ∈ fh_T := fh_Tin 127 (by decide +kernel) rfl
set_option maxRecDepth 100000 in
theorem q_128 : (Cond.fieldLink "FollowedHours" (246 : Nat) "FollowedHours$Sheet" "bits" "I") ∈ fh_T := fh_Tin 128 (by decide +kernel) rfl
set_option maxRecDepth 100000 in
theorem q_129 : (Cond.fieldLink "FollowedHours$Sheet" (19 : Nat) "FollowedHours$Sheet" "size" "I") ∈ fh_T := fh_Tin 129 (by decide +kernel) rfl
set_option maxRecDepth 100000 in
theorem q_130 : (Cond.fieldLink "FollowedHours" (239 : Nat) "FollowedHours$Sheet" "size" "I") ∈ fh_T := fh_Tin 130 (by decide +kernel) rfl
set_option maxRecDepth 100000 in
theorem q_138 : (Cond.fieldLink "FollowedHours" (12 : Nat) "FollowedHours" "garden" "LFollowedHours$Garden;") ∈ fh_T := fh_Tin 138 (by decide +kernel) rfl
set_option maxRecDepth 100000 in
theorem q_139 : (Cond.fieldLink "FollowedHours" (16 : Nat) "FollowedHours" "kept" "LFollowedHours$Garden;") ∈ fh_T := fh_Tin 139 (by decide +kernel) rfl
set_option maxRecDepth 100000 in
theorem q_140 : (Cond.fieldLink "FollowedHours" (19 : Nat) "FollowedHours" "trial" "LFollowedHours$Garden;") ∈ fh_T := fh_Tin 140 (by decide +kernel) rfl
set_option maxRecDepth 100000 in
theorem q_141 : (Cond.fieldLink "FollowedHours" (25 : Nat) "FollowedHours" "tape" "LFollowedHours$Tape;") ∈ fh_T := fh_Tin 141 (by decide +kernel) rfl
set_option maxRecDepth 100000 in
theorem q_142 : (Cond.fieldLink "FollowedHours" (34 : Nat) "FollowedHours" "reader" "LFollowedHours$Reader;") ∈ fh_T := fh_Tin 142 (by decide +kernel) rfl
set_option maxRecDepth 100000 in
theorem q_143 : (Cond.fieldLink "FollowedHours" (40 : Nat) "FollowedHours" "sheets" "[LFollowedHours$Sheet;") ∈ fh_T := fh_Tin 143 (by decide +kernel) rfl
set_option maxRecDepth 100000 in
theorem q_144 : (Cond.fieldLink "FollowedHours" (45 : Nat) "FollowedHours" "findings" "[I") ∈ fh_T := fh_Tin 144 (by decide +kernel) rfl
set_option maxRecDepth 100000 in
theorem q_145 : (Cond.fieldLink "FollowedHours" (49 : Nat) "FollowedHours" "isKept" "Z") ∈ fh_T := fh_Tin 145 (by decide +kernel) rfl
set_option maxRecDepth 100000 in
theorem q_167 : (Cond.methodLink "FollowedHours" (53 : Nat) ({ cls := "FollowedHours", name := "isKind", desc := "(I)Z" } : Jvm.MethodName)) ∈ fh_T := fh_Tin 167 (by decide +kernel) rfl
set_option maxRecDepth 100000 in
theorem q_168 : (Cond.static ({ cls := "FollowedHours", name := "isKind", desc := "(I)Z" } : Jvm.MethodName)) ∈ fh_T := fh_Tin 168 (by decide +kernel) rfl
set_option maxRecDepth 100000 in
theorem q_169 : (Cond.code ({ cls := "FollowedHours", name := "isKind", desc := "(I)Z" } : Jvm.MethodName) prog_1_method_57_code (1 : Nat) (Option.some Jvm.ClassFile.FieldType.boolean)) ∈ fh_T := fh_Tin 169 (by decide +kernel) rfl
set_option maxRecDepth 100000 in
theorem q_170 : (Cond.fieldLink "FollowedHours" (174 : Nat) "FollowedHours" "UPPER_KIND" "[I") ∈ fh_T := fh_Tin 170 (by decide +kernel) rfl
set_option maxRecDepth 100000 in
theorem q_172 : (Cond.methodLink "FollowedHours" (84 : Nat) ({ cls := "FollowedHours", name := "isWithin", desc := "(III)Z" } : Jvm.MethodName)) ∈ fh_T := fh_Tin 172 (by decide +kernel) rfl
set_option maxRecDepth 100000 in
theorem q_173 : (Cond.static ({ cls := "FollowedHours", name := "isWithin", desc := "(III)Z" } : Jvm.MethodName)) ∈ fh_T := fh_Tin 173 (by decide +kernel) rfl
set_option maxRecDepth 100000 in
theorem q_174 : (Cond.code ({ cls := "FollowedHours", name := "isWithin", desc := "(III)Z" } : Jvm.MethodName) prog_1_method_56_code (3 : Nat) (Option.some Jvm.ClassFile.FieldType.boolean)) ∈ fh_T := fh_Tin 174 (by decide +kernel) rfl
set_option maxRecDepth 100000 in
theorem q_175 : (Cond.constant "FollowedHours" (57 : Nat) (-1000001 : Int32)) ∈ fh_T := fh_Tin 175 (by decide +kernel) rfl
set_option maxRecDepth 100000 in
theorem q_176 : (Cond.methodLink "FollowedHours" (58 : Nat) ({ cls := "FollowedHours", name := "tell", desc := "(I)I" } : Jvm.MethodName)) ∈ fh_T := fh_Tin 176 (by decide +kernel) rfl
set_option maxRecDepth 100000 in
theorem q_178 : (Cond.instanceMethod ({ cls := "FollowedHours", name := "tell", desc := "(I)I" } : Jvm.MethodName)) ∈ fh_T := fh_Tin 178 (by decide +kernel) rfl
set_option maxRecDepth 100000 in
theorem q_179 : (Cond.code ({ cls := "FollowedHours", name := "tell", desc := "(I)I" } : Jvm.MethodName) prog_1_method_50_code (3 : Nat) (Option.some Jvm.ClassFile.FieldType.int)) ∈ fh_T := fh_Tin 179 (by decide +kernel) rfl
set_option maxRecDepth 100000 in
theorem q_180 : (Cond.methodLink "FollowedHours" (62 : Nat) ({ cls := "FollowedHours$Garden", name := "isFull", desc := "()Z" } : Jvm.MethodName)) ∈ fh_T := fh_Tin 180 (by decide +kernel) rfl
set_option maxRecDepth 100000 in
theorem q_181 : (Cond.instanceMethod ({ cls := "FollowedHours$Garden", name := "isFull", desc := "()Z" } : Jvm.MethodName)) ∈ fh_T := fh_Tin 181 (by decide +kernel) rfl
set_option maxRecDepth 100000 in
theorem q_182 : (Cond.selects "FollowedHours$Garden" ({ cls := "FollowedHours$Garden", name := "isFull", desc := "()Z" } : Jvm.MethodName) ({ cls := "FollowedHours$Garden", name := "isFull", desc := "()Z" } : Jvm.MethodName)) ∈ fh_T := fh_Tin 182 (by decide +kernel) rfl
set_option maxRecDepth 100000 in
theorem q_183 : (Cond.code ({ cls := "FollowedHours$Garden", name := "isFull", desc := "()Z" } : Jvm.MethodName) prog_2_method_4_code (1 : Nat) (Option.some Jvm.ClassFile.FieldType.boolean)) ∈ fh_T := fh_Tin 183 (by decide +kernel) rfl
set_option maxRecDepth 100000 in
theorem q_184 : (Cond.constant "FollowedHours" (66 : Nat) (-1000002 : Int32)) ∈ fh_T := fh_Tin 184 (by decide +kernel) rfl
set_option maxRecDepth 100000 in
theorem q_185 : (Cond.methodLink "FollowedHours" (67 : Nat) ({ cls := "FollowedHours$Garden", name := "add", desc := "(I)I" } : Jvm.MethodName)) ∈ fh_T := fh_Tin 185 (by decide +kernel) rfl
set_option maxRecDepth 100000 in
theorem q_186 : (Cond.instanceMethod ({ cls := "FollowedHours$Garden", name := "add", desc := "(I)I" } : Jvm.MethodName)) ∈ fh_T := fh_Tin 186 (by decide +kernel) rfl
set_option maxRecDepth 100000 in
theorem q_187 : (Cond.selects "FollowedHours$Garden" ({ cls := "FollowedHours$Garden", name := "add", desc := "(I)I" } : Jvm.MethodName) ({ cls := "FollowedHours$Garden", name := "add", desc := "(I)I" } : Jvm.MethodName)) ∈ fh_T := fh_Tin 187 (by decide +kernel) rfl
set_option maxRecDepth 100000 in
theorem q_188 : (Cond.code ({ cls := "FollowedHours$Garden", name := "add", desc := "(I)I" } : Jvm.MethodName) prog_2_method_5_code (3 : Nat) (Option.some Jvm.ClassFile.FieldType.int)) ∈ fh_T := fh_Tin 188 (by decide +kernel) rfl
set_option maxRecDepth 100000 in
theorem q_189 : (Cond.methodLink "FollowedHours$Garden" (55 : Nat) ({ cls := "java/lang/Math", name := "min", desc := "(II)I" } : Jvm.MethodName)) ∈ fh_T := fh_Tin 189 (by decide +kernel) rfl
set_option maxRecDepth 100000 in
theorem q_190 : (Cond.static ({ cls := "java/lang/Math", name := "min", desc := "(II)I" } : Jvm.MethodName)) ∈ fh_T := fh_Tin 190 (by decide +kernel) rfl
set_option maxRecDepth 100000 in
theorem q_191 : (Cond.code ({ cls := "java/lang/Math", name := "min", desc := "(II)I" } : Jvm.MethodName) prog_9_method_69_code (2 : Nat) (Option.some Jvm.ClassFile.FieldType.int)) ∈ fh_T := fh_Tin 191 (by decide +kernel) rfl
set_option maxRecDepth 100000 in
theorem q_196 : (Cond.methodLink "FollowedHours" (70 : Nat) ({ cls := "FollowedHours$Garden", name := "has", desc := "(I)Z" } : Jvm.MethodName)) ∈ fh_T := fh_Tin 196 (by decide +kernel) rfl
set_option maxRecDepth 100000 in
theorem q_197 : (Cond.instanceMethod ({ cls := "FollowedHours$Garden", name := "has", desc := "(I)Z" } : Jvm.MethodName)) ∈ fh_T := fh_Tin 197 (by decide +kernel) rfl
set_option maxRecDepth 100000 in
theorem q_198 : (Cond.selects "FollowedHours$Garden" ({ cls := "FollowedHours$Garden", name := "has", desc := "(I)Z" } : Jvm.MethodName) ({ cls := "FollowedHours$Garden", name := "has", desc := "(I)Z" } : Jvm.MethodName)) ∈ fh_T := fh_Tin 198 (by decide +kernel) rfl
set_option maxRecDepth 100000 in
theorem q_199 : (Cond.code ({ cls := "FollowedHours$Garden", name := "has", desc := "(I)Z" } : Jvm.MethodName) prog_2_method_3_code (2 : Nat) (Option.some Jvm.ClassFile.FieldType.boolean)) ∈ fh_T := fh_Tin 199 (by decide +kernel) rfl
set_option maxRecDepth 100000 in
theorem q_200 : (Cond.methodLink "FollowedHours" (73 : Nat) ({ cls := "FollowedHours$Garden", name := "paceOf", desc := "(I)I" } : Jvm.MethodName)) ∈ fh_T := fh_Tin 200 (by decide +kernel) rfl
set_option maxRecDepth 100000 in
theorem q_201 : (Cond.instanceMethod ({ cls := "FollowedHours$Garden", name := "paceOf", desc := "(I)I" } : Jvm.MethodName)) ∈ fh_T := fh_Tin 201 (by decide +kernel) rfl
set_option maxRecDepth 100000 in
theorem q_202 : (Cond.selects "FollowedHours$Garden" ({ cls := "FollowedHours$Garden", name := "paceOf", desc := "(I)I" } : Jvm.MethodName) ({ cls := "FollowedHours$Garden", name := "paceOf", desc := "(I)I" } : Jvm.MethodName)) ∈ fh_T := fh_Tin 202 (by decide +kernel) rfl
set_option maxRecDepth 100000 in
theorem q_203 : (Cond.code ({ cls := "FollowedHours$Garden", name := "paceOf", desc := "(I)I" } : Jvm.MethodName) prog_2_method_12_code (6 : Nat) (Option.some Jvm.ClassFile.FieldType.int)) ∈ fh_T := fh_Tin 203 (by decide +kernel) rfl
set_option maxRecDepth 100000 in
theorem q_204 : (Cond.methodLink "FollowedHours$Garden" (80 : Nat) ({ cls := "FollowedHours$Garden", name := "paceBehind", desc := "(II)I" } : Jvm.MethodName)) ∈ fh_T := fh_Tin 204 (by decide +kernel) rfl
set_option maxRecDepth 100000 in
theorem q_206 : (Cond.instanceMethod ({ cls := "FollowedHours$Garden", name := "paceBehind", desc := "(II)I" } : Jvm.MethodName)) ∈ fh_T := fh_Tin 206 (by decide +kernel) rfl
set_option maxRecDepth 100000 in
theorem q_207 : (Cond.code ({ cls := "FollowedHours$Garden", name := "paceBehind", desc := "(II)I" } : Jvm.MethodName) prog_2_method_13_code (4 : Nat) (Option.some Jvm.ClassFile.FieldType.int)) ∈ fh_T := fh_Tin 207 (by decide +kernel) rfl
set_option maxRecDepth 100000 in
theorem q_208 : (Cond.methodLink "FollowedHours$Garden" (89 : Nat) ({ cls := "FollowedHours$Garden", name := "lateOf", desc := "(I)I" } : Jvm.MethodName)) ∈ fh_T := fh_Tin 208 (by decide +kernel) rfl
set_option maxRecDepth 100000 in
theorem q_209 : (Cond.static ({ cls := "FollowedHours$Garden", name := "lateOf", desc := "(I)I" } : Jvm.MethodName)) ∈ fh_T := fh_Tin 209 (by decide +kernel) rfl
set_option maxRecDepth 100000 in
theorem q_210 : (Cond.code ({ cls := "FollowedHours$Garden", name := "lateOf", desc := "(I)I" } : Jvm.MethodName) prog_2_method_14_code (1 : Nat) (Option.some Jvm.ClassFile.FieldType.int)) ∈ fh_T := fh_Tin 210 (by decide +kernel) rfl
set_option maxRecDepth 100000 in
theorem q_211 : (Cond.methodLink "FollowedHours$Garden" (83 : Nat) ({ cls := "java/lang/Math", name := "abs", desc := "(I)I" } : Jvm.MethodName)) ∈ fh_T := fh_Tin 211 (by decide +kernel) rfl
set_option maxRecDepth 100000 in
theorem q_212 : (Cond.static ({ cls := "java/lang/Math", name := "abs", desc := "(I)I" } : Jvm.MethodName)) ∈ fh_T := fh_Tin 212 (by decide +kernel) rfl
set_option maxRecDepth 100000 in
theorem q_213 : (Cond.code ({ cls := "java/lang/Math", name := "abs", desc := "(I)I" } : Jvm.MethodName) prog_9_method_59_code (1 : Nat) (Option.some Jvm.ClassFile.FieldType.int)) ∈ fh_T := fh_Tin 213 (by decide +kernel) rfl
set_option maxRecDepth 100000 in
theorem q_214 : (Cond.methodLink "FollowedHours$Garden" (86 : Nat) ({ cls := "java/lang/Math", name := "max", desc := "(II)I" } : Jvm.MethodName)) ∈ fh_T := fh_Tin 214 (by decide +kernel) rfl
set_option maxRecDepth 100000 in
theorem q_215 : (Cond.static ({ cls := "java/lang/Math", name := "max", desc := "(II)I" } : Jvm.MethodName)) ∈ fh_T := fh_Tin 215 (by decide +kernel) rfl
set_option maxRecDepth 100000 in
theorem q_216 : (Cond.code ({ cls := "java/lang/Math", name := "max", desc := "(II)I" } : Jvm.MethodName) prog_9_method_65_code (2 : Nat) (Option.some Jvm.ClassFile.FieldType.int)) ∈ fh_T := fh_Tin 216 (by decide +kernel) rfl
set_option maxRecDepth 100000 in
theorem q_217 : (Cond.methodLink "FollowedHours" (76 : Nat) ({ cls := "FollowedHours$Garden", name := "rowOf", desc := "(I)[I" } : Jvm.MethodName)) ∈ fh_T := fh_Tin 217 (by decide +kernel) rfl
set_option maxRecDepth 100000 in
theorem q_218 : (Cond.instanceMethod ({ cls := "FollowedHours$Garden", name := "rowOf", desc := "(I)[I" } : Jvm.MethodName)) ∈ fh_T := fh_Tin 218 (by decide +kernel) rfl
set_option maxRecDepth 100000 in
theorem q_219 : (Cond.selects "FollowedHours$Garden" ({ cls := "FollowedHours$Garden", name := "rowOf", desc := "(I)[I" } : Jvm.MethodName) ({ cls := "FollowedHours$Garden", name := "rowOf", desc := "(I)[I" } : Jvm.MethodName)) ∈ fh_T := fh_Tin 219 (by decide +kernel) rfl
set_option maxRecDepth 100000 in
theorem q_220 : (Cond.code ({ cls := "FollowedHours$Garden", name := "rowOf", desc := "(I)[I" } : Jvm.MethodName) prog_2_method_6_code (2 : Nat) (Option.some (Jvm.ClassFile.FieldType.array Jvm.ClassFile.FieldType.int))) ∈ fh_T := fh_Tin 220 (by decide +kernel) rfl
set_option maxRecDepth 100000 in
theorem q_225 : (Cond.methodLink "FollowedHours" (80 : Nat) ({ cls := "FollowedHours$Garden", name := "mayBecome", desc := "(II)Z" } : Jvm.MethodName)) ∈ fh_T := fh_Tin 225 (by decide +kernel) rfl
set_option maxRecDepth 100000 in
theorem q_226 : (Cond.instanceMethod ({ cls := "FollowedHours$Garden", name := "mayBecome", desc := "(II)Z" } : Jvm.MethodName)) ∈ fh_T := fh_Tin 226 (by decide +kernel) rfl
set_option maxRecDepth 100000 in
theorem q_227 : (Cond.selects "FollowedHours$Garden" ({ cls := "FollowedHours$Garden", name := "mayBecome", desc := "(II)Z" } : Jvm.MethodName) ({ cls := "FollowedHours$Garden", name := "mayBecome", desc := "(II)Z" } : Jvm.MethodName)) ∈ fh_T := fh_Tin 227 (by decide +kernel) rfl
set_option maxRecDepth 100000 in
theorem q_228 : (Cond.code ({ cls := "FollowedHours$Garden", name := "mayBecome", desc := "(II)Z" } : Jvm.MethodName) prog_2_method_7_code (3 : Nat) (Option.some Jvm.ClassFile.FieldType.boolean)) ∈ fh_T := fh_Tin 228 (by decide +kernel) rfl
set_option maxRecDepth 100000 in
theorem q_231 : (Cond.static ({ cls := "FollowedHours", name := "isHour", desc := "(I)Z" } : Jvm.MethodName)) ∈ fh_T := fh_Tin 231 (by decide +kernel) rfl
set_option maxRecDepth 100000 in
theorem q_232 : (Cond.code ({ cls := "FollowedHours", name := "isHour", desc := "(I)Z" } : Jvm.MethodName) prog_1_method_58_code (1 : Nat) (Option.some Jvm.ClassFile.FieldType.boolean)) ∈ fh_T := fh_Tin 232 (by decide +kernel) rfl
set_option maxRecDepth 100000 in
theorem q_233 : (Cond.methodLink "FollowedHours$Garden" (68 : Nat) ({ cls := "FollowedHours$Garden", name := "has", desc := "(I)Z" } : Jvm.MethodName)) ∈ fh_T := fh_Tin 233 (by decide +kernel) rfl
set_option maxRecDepth 100000 in
theorem q_239 : (Cond.methodLink "FollowedHours" (88 : Nat) ({ cls := "FollowedHours$Garden", name := "turn", desc := "(II)V" } : Jvm.MethodName)) ∈ fh_T := fh_Tin 239 (by decide +kernel) rfl
set_option maxRecDepth 100000 in
theorem q_240 : (Cond.instanceMethod ({ cls := "FollowedHours$Garden", name := "turn", desc := "(II)V" } : Jvm.MethodName)) ∈ fh_T := fh_Tin 240 (by decide +kernel) rfl
set_option maxRecDepth 100000 in
theorem q_241 : (Cond.selects "FollowedHours$Garden" ({ cls := "FollowedHours$Garden", name := "turn", desc := "(II)V" } : Jvm.MethodName) ({ cls := "FollowedHours$Garden", name := "turn", desc := "(II)V" } : Jvm.MethodName)) ∈ fh_T := fh_Tin 241 (by decide +kernel) rfl
set_option maxRecDepth 100000 in
theorem q_242 : (Cond.code ({ cls := "FollowedHours$Garden", name := "turn", desc := "(II)V" } : Jvm.MethodName) prog_2_method_8_code (3 : Nat) (Option.none : Option Jvm.ClassFile.FieldType)) ∈ fh_T := fh_Tin 242 (by decide +kernel) rfl
set_option maxRecDepth 100000 in
theorem q_244 : (Cond.static ({ cls := "FollowedHours", name := "roundHour", desc := "(I)I" } : Jvm.MethodName)) ∈ fh_T := fh_Tin 244 (by decide +kernel) rfl
set_option maxRecDepth 100000 in
theorem q_245 : (Cond.code ({ cls := "FollowedHours", name := "roundHour", desc := "(I)I" } : Jvm.MethodName) prog_1_method_63_code (1 : Nat) (Option.some Jvm.ClassFile.FieldType.int)) ∈ fh_T := fh_Tin 245 (by decide +kernel) rfl
set_option maxRecDepth 100000 in
theorem q_246 : (Cond.methodLink "FollowedHours" (281 : Nat) ({ cls := "java/lang/Math", name := "floorMod", desc := "(II)I" } : Jvm.MethodName)) ∈ fh_T := fh_Tin 246 (by decide +kernel) rfl
set_option maxRecDepth 100000 in
theorem q_247 : (Cond.static ({ cls := "java/lang/Math", name := "floorMod", desc := "(II)I" } : Jvm.MethodName)) ∈ fh_T := fh_Tin 247 (by decide +kernel) rfl
set_option maxRecDepth 100000 in
theorem q_248 : (Cond.code ({ cls := "java/lang/Math", name := "floorMod", desc := "(II)I" } : Jvm.MethodName) prog_9_method_50_code (3 : Nat) (Option.some Jvm.ClassFile.FieldType.int)) ∈ fh_T := fh_Tin 248 (by decide +kernel) rfl
set_option maxRecDepth 100000 in
theorem q_253 : (Cond.methodLink "FollowedHours" (95 : Nat) ({ cls := "FollowedHours$Garden", name := "freeze", desc := "(I)Z" } : Jvm.MethodName)) ∈ fh_T := fh_Tin 253 (by decide +kernel) rfl
set_option maxRecDepth 100000 in
theorem q_254 : (Cond.instanceMethod ({ cls := "FollowedHours$Garden", name := "freeze", desc := "(I)Z" } : Jvm.MethodName)) ∈ fh_T := fh_Tin 254 (by decide +kernel) rfl
set_option maxRecDepth 100000 in
theorem q_255 : (Cond.selects "FollowedHours$Garden" ({ cls := "FollowedHours$Garden", name := "freeze", desc := "(I)Z" } : Jvm.MethodName) ({ cls := "FollowedHours$Garden", name := "freeze", desc := "(I)Z" } : Jvm.MethodName)) ∈ fh_T := fh_Tin 255 (by decide +kernel) rfl
set_option maxRecDepth 100000 in
theorem q_256 : (Cond.code ({ cls := "FollowedHours$Garden", name := "freeze", desc := "(I)Z" } : Jvm.MethodName) prog_2_method_9_code (2 : Nat) (Option.some Jvm.ClassFile.FieldType.boolean)) ∈ fh_T := fh_Tin 256 (by decide +kernel) rfl
set_option maxRecDepth 100000 in
theorem q_257 : (Cond.methodLink "FollowedHours" (98 : Nat) ({ cls := "FollowedHours$Garden", name := "thaw", desc := "(I)Z" } : Jvm.MethodName)) ∈ fh_T := fh_Tin 257 (by decide +kernel) rfl
set_option maxRecDepth 100000 in
theorem q_258 : (Cond.instanceMethod ({ cls := "FollowedHours$Garden", name := "thaw", desc := "(I)Z" } : Jvm.MethodName)) ∈ fh_T := fh_Tin 258 (by decide +kernel) rfl
set_option maxRecDepth 100000 in
theorem q_259 : (Cond.selects "FollowedHours$Garden" ({ cls := "FollowedHours$Garden", name := "thaw", desc := "(I)Z" } : Jvm.MethodName) ({ cls := "FollowedHours$Garden", name := "thaw", desc := "(I)Z" } : Jvm.MethodName)) ∈ fh_T := fh_Tin 259 (by decide +kernel) rfl
set_option maxRecDepth 100000 in
theorem q_260 : (Cond.code ({ cls := "FollowedHours$Garden", name := "thaw", desc := "(I)Z" } : Jvm.MethodName) prog_2_method_10_code (2 : Nat) (Option.some Jvm.ClassFile.FieldType.boolean)) ∈ fh_T := fh_Tin 260 (by decide +kernel) rfl
set_option maxRecDepth 100000 in
theorem q_265 : (Cond.constant "FollowedHours" (105 : Nat) (99999 : Int32)) ∈ fh_T := fh_Tin 265 (by decide +kernel) rfl
set_option maxRecDepth 100000 in
theorem q_266 : (Cond.constant "FollowedHours" (106 : Nat) (-1000005 : Int32)) ∈ fh_T := fh_Tin 266 (by decide +kernel) rfl
set_option maxRecDepth 100000 in
theorem q_267 : (Cond.methodLink "FollowedHours" (107 : Nat) ({ cls := "FollowedHours$Garden", name := "passTicks", desc := "(I)V" } : Jvm.MethodName)) ∈ fh_T := fh_Tin 267 (by decide +kernel) rfl
set_option maxRecDepth 100000 in
theorem q_268 : (Cond.instanceMethod ({ cls := "FollowedHours$Garden", name := "passTicks", desc := "(I)V" } : Jvm.MethodName)) ∈ fh_T := fh_Tin 268 (by decide +kernel) rfl
set_option maxRecDepth 100000 in
theorem q_269 : (Cond.selects "FollowedHours$Garden" ({ cls := "FollowedHours$Garden", name := "passTicks", desc := "(I)V" } : Jvm.MethodName) ({ cls := "FollowedHours$Garden", name := "passTicks", desc := "(I)V" } : Jvm.MethodName)) ∈ fh_T := fh_Tin 269 (by decide +kernel) rfl
set_option maxRecDepth 100000 in
theorem q_270 : (Cond.code ({ cls := "FollowedHours$Garden", name := "passTicks", desc := "(I)V" } : Jvm.MethodName) prog_2_method_16_code (3 : Nat) (Option.none : Option Jvm.ClassFile.FieldType)) ∈ fh_T := fh_Tin 270 (by decide +kernel) rfl
set_option maxRecDepth 100000 in
theorem q_271 : (Cond.methodLink "FollowedHours$Garden" (100 : Nat) ({ cls := "FollowedHours$Garden", name := "passTick", desc := "()V" } : Jvm.MethodName)) ∈ fh_T := fh_Tin 271 (by decide +kernel) rfl
set_option maxRecDepth 100000 in
theorem q_272 : (Cond.instanceMethod ({ cls := "FollowedHours$Garden", name := "passTick", desc := "()V" } : Jvm.MethodName)) ∈ fh_T := fh_Tin 272 (by decide +kernel) rfl
set_option maxRecDepth 100000 in
theorem q_273 : (Cond.selects "FollowedHours$Garden" ({ cls := "FollowedHours$Garden", name := "passTick", desc := "()V" } : Jvm.MethodName) ({ cls := "FollowedHours$Garden", name := "passTick", desc := "()V" } : Jvm.MethodName)) ∈ fh_T := fh_Tin 273 (by decide +kernel) rfl
set_option maxRecDepth 100000 in
theorem q_274 : (Cond.code ({ cls := "FollowedHours$Garden", name := "passTick", desc := "()V" } : Jvm.MethodName) prog_2_method_15_code (2 : Nat) (Option.none : Option Jvm.ClassFile.FieldType)) ∈ fh_T := fh_Tin 274 (by decide +kernel) rfl
set_option maxRecDepth 100000 in
theorem q_275 : (Cond.methodLink "FollowedHours$Garden" (92 : Nat) ({ cls := "FollowedHours$Garden", name := "paceOf", desc := "(I)I" } : Jvm.MethodName)) ∈ fh_T := fh_Tin 275 (by decide +kernel) rfl
set_option maxRecDepth 100000 in
theorem q_276 : (Cond.methodLink "FollowedHours$Garden" (95 : Nat) ({ cls := "FollowedHours$Garden", name := "turn", desc := "(II)V" } : Jvm.MethodName)) ∈ fh_T := fh_Tin 276 (by decide +kernel) rfl
set_option maxRecDepth 100000 in
theorem q_277 : (Cond.constant "FollowedHours$Garden" (99 : Nat) (99999 : Int32)) ∈ fh_T := fh_Tin 277 (by decide +kernel) rfl
set_option maxRecDepth 100000 in
theorem q_282 : (Cond.methodLink "FollowedHours" (111 : Nat) ({ cls := "FollowedHours$Garden", name := "stoppedSet", desc := "()I" } : Jvm.MethodName)) ∈ fh_T := fh_Tin 282 (by decide +kernel) rfl
set_option maxRecDepth 100000 in
theorem q_283 : (Cond.instanceMethod ({ cls := "FollowedHours$Garden", name := "stoppedSet", desc := "()I" } : Jvm.MethodName)) ∈ fh_T := fh_Tin 283 (by decide +kernel) rfl
set_option maxRecDepth 100000 in
theorem q_284 : (Cond.selects "FollowedHours$Garden" ({ cls := "FollowedHours$Garden", name := "stoppedSet", desc := "()I" } : Jvm.MethodName) ({ cls := "FollowedHours$Garden", name := "stoppedSet", desc := "()I" } : Jvm.MethodName)) ∈ fh_T := fh_Tin 284 (by decide +kernel) rfl
set_option maxRecDepth 100000 in
theorem q_285 : (Cond.code ({ cls := "FollowedHours$Garden", name := "stoppedSet", desc := "()I" } : Jvm.MethodName) prog_2_method_20_code (1 : Nat) (Option.some Jvm.ClassFile.FieldType.int)) ∈ fh_T := fh_Tin 285 (by decide +kernel) rfl
set_option maxRecDepth 100000 in
theorem q_286 : (Cond.methodLink "FollowedHours$Garden" (110 : Nat) ({ cls := "FollowedHours$Garden", name := "setWhere", desc := "([II)I" } : Jvm.MethodName)) ∈ fh_T := fh_Tin 286 (by decide +kernel) rfl
set_option maxRecDepth 100000 in
theorem q_288 : (Cond.instanceMethod ({ cls := "FollowedHours$Garden", name := "setWhere", desc := "([II)I" } : Jvm.MethodName)) ∈ fh_T := fh_Tin 288 (by decide +kernel) rfl
set_option maxRecDepth 100000 in
theorem q_289 : (Cond.code ({ cls := "FollowedHours$Garden", name := "setWhere", desc := "([II)I" } : Jvm.MethodName) prog_2_method_22_code (5 : Nat) (Option.some Jvm.ClassFile.FieldType.int)) ∈ fh_T := fh_Tin 289 (by decide +kernel) rfl
set_option maxRecDepth 100000 in
theorem q_290 : (Cond.methodLink "FollowedHours" (115 : Nat) ({ cls := "FollowedHours$Garden", name := "stillSet", desc := "()I" } : Jvm.MethodName)) ∈ fh_T := fh_Tin 290 (by decide +kernel) rfl
set_option maxRecDepth 100000 in
theorem q_291 : (Cond.instanceMethod ({ cls := "FollowedHours$Garden", name := "stillSet", desc := "()I" } : Jvm.MethodName)) ∈ fh_T := fh_Tin 291 (by decide +kernel) rfl
set_option maxRecDepth 100000 in
theorem q_292 : (Cond.selects "FollowedHours$Garden" ({ cls := "FollowedHours$Garden", name := "stillSet", desc := "()I" } : Jvm.MethodName) ({ cls := "FollowedHours$Garden", name := "stillSet", desc := "()I" } : Jvm.MethodName)) ∈ fh_T := fh_Tin 292 (by decide +kernel) rfl
set_option maxRecDepth 100000 in
theorem q_293 : (Cond.code ({ cls := "FollowedHours$Garden", name := "stillSet", desc := "()I" } : Jvm.MethodName) prog_2_method_21_code (1 : Nat) (Option.some Jvm.ClassFile.FieldType.int)) ∈ fh_T := fh_Tin 293 (by decide +kernel) rfl
set_option maxRecDepth 100000 in
theorem q_294 : (Cond.methodLink "FollowedHours" (118 : Nat) ({ cls := "FollowedHours$Garden", name := "ownMasterSet", desc := "()I" } : Jvm.MethodName)) ∈ fh_T := fh_Tin 294 (by decide +kernel) rfl
set_option maxRecDepth 100000 in
theorem q_295 : (Cond.instanceMethod ({ cls := "FollowedHours$Garden", name := "ownMasterSet", desc := "()I" } : Jvm.MethodName)) ∈ fh_T := fh_Tin 295 (by decide +kernel) rfl
set_option maxRecDepth 100000 in
theorem q_296 : (Cond.selects "FollowedHours$Garden" ({ cls := "FollowedHours$Garden", name := "ownMasterSet", desc := "()I" } : Jvm.MethodName) ({ cls := "FollowedHours$Garden", name := "ownMasterSet", desc := "()I" } : Jvm.MethodName)) ∈ fh_T := fh_Tin 296 (by decide +kernel) rfl
set_option maxRecDepth 100000 in
theorem q_297 : (Cond.code ({ cls := "FollowedHours$Garden", name := "ownMasterSet", desc := "()I" } : Jvm.MethodName) prog_2_method_23_code (3 : Nat) (Option.some Jvm.ClassFile.FieldType.int)) ∈ fh_T := fh_Tin 297 (by decide +kernel) rfl
set_option maxRecDepth 100000 in
theorem q_298 : (Cond.methodLink "FollowedHours" (124 : Nat) ({ cls := "FollowedHours$Garden", name := "sumOf", desc := "([I)I" } : Jvm.MethodName)) ∈ fh_T := fh_Tin 298 (by decide +kernel) rfl
set_option maxRecDepth 100000 in
theorem q_299 : (Cond.instanceMethod ({ cls := "FollowedHours$Garden", name := "sumOf", desc := "([I)I" } : Jvm.MethodName)) ∈ fh_T := fh_Tin 299 (by decide +kernel) rfl
set_option maxRecDepth 100000 in
theorem q_300 : (Cond.selects "FollowedHours$Garden" ({ cls := "FollowedHours$Garden", name := "sumOf", desc := "([I)I" } : Jvm.MethodName) ({ cls := "FollowedHours$Garden", name := "sumOf", desc := "([I)I" } : Jvm.MethodName)) ∈ fh_T := fh_Tin 300 (by decide +kernel) rfl
set_option maxRecDepth 100000 in
theorem q_301 : (Cond.code ({ cls := "FollowedHours$Garden", name := "sumOf", desc := "([I)I" } : Jvm.MethodName) prog_2_method_24_code (4 : Nat) (Option.some Jvm.ClassFile.FieldType.int)) ∈ fh_T := fh_Tin 301 (by decide +kernel) rfl
set_option maxRecDepth 100000 in
theorem q_302 : (Cond.methodLink "FollowedHours" (128 : Nat) ({ cls := "FollowedHours$Garden", name := "alikeSet", desc := "()I" } : Jvm.MethodName)) ∈ fh_T := fh_Tin 302 (by decide +kernel) rfl
set_option maxRecDepth 100000 in
theorem q_303 : (Cond.instanceMethod ({ cls := "FollowedHours$Garden", name := "alikeSet", desc := "()I" } : Jvm.MethodName)) ∈ fh_T := fh_Tin 303 (by decide +kernel) rfl
set_option maxRecDepth 100000 in
theorem q_304 : (Cond.selects "FollowedHours$Garden" ({ cls := "FollowedHours$Garden", name := "alikeSet", desc := "()I" } : Jvm.MethodName) ({ cls := "FollowedHours$Garden", name := "alikeSet", desc := "()I" } : Jvm.MethodName)) ∈ fh_T := fh_Tin 304 (by decide +kernel) rfl
set_option maxRecDepth 100000 in
theorem q_305 : (Cond.code ({ cls := "FollowedHours$Garden", name := "alikeSet", desc := "()I" } : Jvm.MethodName) prog_2_method_26_code (6 : Nat) (Option.some Jvm.ClassFile.FieldType.int)) ∈ fh_T := fh_Tin 305 (by decide +kernel) rfl
set_option maxRecDepth 100000 in
theorem q_306 : (Cond.methodLink "FollowedHours$Garden" (114 : Nat) ({ cls := "java/lang/Integer", name := "bitCount", desc := "(I)I" } : Jvm.MethodName)) ∈ fh_T := fh_Tin 306 (by decide +kernel) rfl
set_option maxRecDepth 100000 in
theorem q_307 : (Cond.static ({ cls := "java/lang/Integer", name := "bitCount", desc := "(I)I" } : Jvm.MethodName)) ∈ fh_T := fh_Tin 307 (by decide +kernel) rfl
set_option maxRecDepth 100000 in
theorem q_308 : (Cond.code ({ cls := "java/lang/Integer", name := "bitCount", desc := "(I)I" } : Jvm.MethodName) prog_8_method_49_code (1 : Nat) (Option.some Jvm.ClassFile.FieldType.int)) ∈ fh_T := fh_Tin 308 (by decide +kernel) rfl
set_option maxRecDepth 100000 in
theorem q_309 : (Cond.constant "java/lang/Integer" (265 : Nat) (1431655765 : Int32)) ∈ fh_T := fh_Tin 309 (by decide +kernel) rfl
set_option maxRecDepth 100000 in
theorem q_310 : (Cond.constant "java/lang/Integer" (266 : Nat) (858993459 : Int32)) ∈ fh_T := fh_Tin 310 (by decide +kernel) rfl
set_option maxRecDepth 100000 in
theorem q_311 : (Cond.constant "java/lang/Integer" (267 : Nat) (252645135 : Int32)) ∈ fh_T := fh_Tin 311 (by decide +kernel) rfl
set_option maxRecDepth 100000 in
theorem q_312 : (Cond.methodLink "FollowedHours" (131 : Nat) ({ cls := "java/lang/Integer", name := "bitCount", desc := "(I)I" } : Jvm.MethodName)) ∈ fh_T := fh_Tin 312 (by decide +kernel) rfl
set_option maxRecDepth 100000 in
theorem q_317 : (Cond.methodLink "FollowedHours" (139 : Nat) ({ cls := "FollowedHours$Garden", name := "waySet", desc := "(I)I" } : Jvm.MethodName)) ∈ fh_T := fh_Tin 317 (by decide +kernel) rfl
set_option maxRecDepth 100000 in
theorem q_318 : (Cond.instanceMethod ({ cls := "FollowedHours$Garden", name := "waySet", desc := "(I)I" } : Jvm.MethodName)) ∈ fh_T := fh_Tin 318 (by decide +kernel) rfl
set_option maxRecDepth 100000 in
theorem q_319 : (Cond.selects "FollowedHours$Garden" ({ cls := "FollowedHours$Garden", name := "waySet", desc := "(I)I" } : Jvm.MethodName) ({ cls := "FollowedHours$Garden", name := "waySet", desc := "(I)I" } : Jvm.MethodName)) ∈ fh_T := fh_Tin 319 (by decide +kernel) rfl
set_option maxRecDepth 100000 in
theorem q_320 : (Cond.code ({ cls := "FollowedHours$Garden", name := "waySet", desc := "(I)I" } : Jvm.MethodName) prog_2_method_27_code (5 : Nat) (Option.some Jvm.ClassFile.FieldType.int)) ∈ fh_T := fh_Tin 320 (by decide +kernel) rfl
set_option maxRecDepth 100000 in
theorem q_325 : (Cond.methodLink "FollowedHours" (142 : Nat) ({ cls := "FollowedHours$Garden", name := "ringSet", desc := "(I)I" } : Jvm.MethodName)) ∈ fh_T := fh_Tin 325 (by decide +kernel) rfl
set_option maxRecDepth 100000 in
theorem q_326 : (Cond.instanceMethod ({ cls := "FollowedHours$Garden", name := "ringSet", desc := "(I)I" } : Jvm.MethodName)) ∈ fh_T := fh_Tin 326 (by decide +kernel) rfl
set_option maxRecDepth 100000 in
theorem q_327 : (Cond.selects "FollowedHours$Garden" ({ cls := "FollowedHours$Garden", name := "ringSet", desc := "(I)I" } : Jvm.MethodName) ({ cls := "FollowedHours$Garden", name := "ringSet", desc := "(I)I" } : Jvm.MethodName)) ∈ fh_T := fh_Tin 327 (by decide +kernel) rfl
set_option maxRecDepth 100000 in
theorem q_328 : (Cond.code ({ cls := "FollowedHours$Garden", name := "ringSet", desc := "(I)I" } : Jvm.MethodName) prog_2_method_28_code (4 : Nat) (Option.some Jvm.ClassFile.FieldType.int)) ∈ fh_T := fh_Tin 328 (by decide +kernel) rfl
set_option maxRecDepth 100000 in
theorem q_329 : (Cond.methodLink "FollowedHours$Garden" (119 : Nat) ({ cls := "FollowedHours$Garden", name := "waySet", desc := "(I)I" } : Jvm.MethodName)) ∈ fh_T := fh_Tin 329 (by decide +kernel) rfl
set_option maxRecDepth 100000 in
theorem q_334 : (Cond.methodLink "FollowedHours" (145 : Nat) ({ cls := "FollowedHours$Garden", name := "ringCount", desc := "()I" } : Jvm.MethodName)) ∈ fh_T := fh_Tin 334 (by decide +kernel) rfl
set_option maxRecDepth 100000 in
theorem q_335 : (Cond.instanceMethod ({ cls := "FollowedHours$Garden", name := "ringCount", desc := "()I" } : Jvm.MethodName)) ∈ fh_T := fh_Tin 335 (by decide +kernel) rfl
set_option maxRecDepth 100000 in
theorem q_336 : (Cond.selects "FollowedHours$Garden" ({ cls := "FollowedHours$Garden", name := "ringCount", desc := "()I" } : Jvm.MethodName) ({ cls := "FollowedHours$Garden", name := "ringCount", desc := "()I" } : Jvm.MethodName)) ∈ fh_T := fh_Tin 336 (by decide +kernel) rfl
set_option maxRecDepth 100000 in
theorem q_337 : (Cond.code ({ cls := "FollowedHours$Garden", name := "ringCount", desc := "()I" } : Jvm.MethodName) prog_2_method_29_code (3 : Nat) (Option.some Jvm.ClassFile.FieldType.int)) ∈ fh_T := fh_Tin 337 (by decide +kernel) rfl
set_option maxRecDepth 100000 in
theorem q_338 : (Cond.methodLink "FollowedHours$Garden" (122 : Nat) ({ cls := "FollowedHours$Garden", name := "ringSet", desc := "(I)I" } : Jvm.MethodName)) ∈ fh_T := fh_Tin 338 (by decide +kernel) rfl
set_option maxRecDepth 100000 in
theorem q_340 : (Cond.static ({ cls := "FollowedHours", name := "lowestOf", desc := "(I)I" } : Jvm.MethodName)) ∈ fh_T := fh_Tin 340 (by decide +kernel) rfl
set_option maxRecDepth 100000 in
theorem q_341 : (Cond.code ({ cls := "FollowedHours", name := "lowestOf", desc := "(I)I" } : Jvm.MethodName) prog_1_method_62_code (1 : Nat) (Option.some Jvm.ClassFile.FieldType.int)) ∈ fh_T := fh_Tin 341 (by decide +kernel) rfl
set_option maxRecDepth 100000 in
theorem q_342 : (Cond.methodLink "FollowedHours" (278 : Nat) ({ cls := "java/lang/Integer", name := "numberOfTrailingZeros", desc := "(I)I" } : Jvm.MethodName)) ∈ fh_T := fh_Tin 342 (by decide +kernel) rfl
set_option maxRecDepth 100000 in
theorem q_343 : (Cond.static ({ cls := "java/lang/Integer", name := "numberOfTrailingZeros", desc := "(I)I" } : Jvm.MethodName)) ∈ fh_T := fh_Tin 343 (by decide +kernel) rfl
set_option maxRecDepth 100000 in
theorem q_344 : (Cond.code ({ cls := "java/lang/Integer", name := "numberOfTrailingZeros", desc := "(I)I" } : Jvm.MethodName) prog_8_method_48_code (2 : Nat) (Option.some Jvm.ClassFile.FieldType.int)) ∈ fh_T := fh_Tin 344 (by decide +kernel) rfl
set_option maxRecDepth 100000 in
theorem q_345 : (Cond.constant "java/lang/Integer" (264 : Nat) (65536 : Int32)) ∈ fh_T := fh_Tin 345 (by decide +kernel) rfl
set_option maxRecDepth 100000 in
theorem q_350 : (Cond.methodLink "FollowedHours" (148 : Nat) ({ cls := "FollowedHours$Garden", name := "stepsToRing", desc := "(I)I" } : Jvm.MethodName)) ∈ fh_T := fh_Tin 350 (by decide +kernel) rfl
set_option maxRecDepth 100000 in
theorem q_351 : (Cond.instanceMethod ({ cls := "FollowedHours$Garden", name := "stepsToRing", desc := "(I)I" } : Jvm.MethodName)) ∈ fh_T := fh_Tin 351 (by decide +kernel) rfl
set_option maxRecDepth 100000 in
theorem q_352 : (Cond.selects "FollowedHours$Garden" ({ cls := "FollowedHours$Garden", name := "stepsToRing", desc := "(I)I" } : Jvm.MethodName) ({ cls := "FollowedHours$Garden", name := "stepsToRing", desc := "(I)I" } : Jvm.MethodName)) ∈ fh_T := fh_Tin 352 (by decide +kernel) rfl
set_option maxRecDepth 100000 in
theorem q_353 : (Cond.code ({ cls := "FollowedHours$Garden", name := "stepsToRing", desc := "(I)I" } : Jvm.MethodName) prog_2_method_30_code (6 : Nat) (Option.some Jvm.ClassFile.FieldType.int)) ∈ fh_T := fh_Tin 353 (by decide +kernel) rfl
set_option maxRecDepth 100000 in
theorem q_355 : (Cond.static ({ cls := "FollowedHours", name := "isIn", desc := "(II)Z" } : Jvm.MethodName)) ∈ fh_T := fh_Tin 355 (by decide +kernel) rfl
set_option maxRecDepth 100000 in
theorem q_356 : (Cond.code ({ cls := "FollowedHours", name := "isIn", desc := "(II)Z" } : Jvm.MethodName) prog_1_method_61_code (2 : Nat) (Option.some Jvm.ClassFile.FieldType.boolean)) ∈ fh_T := fh_Tin 356 (by decide +kernel) rfl
set_option maxRecDepth 100000 in
theorem q_361 : (Cond.methodLink "FollowedHours" (151 : Nat) ({ cls := "FollowedHours$Garden", name := "underSet", desc := "(I)I" } : Jvm.MethodName)) ∈ fh_T := fh_Tin 361 (by decide +kernel) rfl
set_option maxRecDepth 100000 in
theorem q_362 : (Cond.instanceMethod ({ cls := "FollowedHours$Garden", name := "underSet", desc := "(I)I" } : Jvm.MethodName)) ∈ fh_T := fh_Tin 362 (by decide +kernel) rfl
set_option maxRecDepth 100000 in
theorem q_363 : (Cond.selects "FollowedHours$Garden" ({ cls := "FollowedHours$Garden", name := "underSet", desc := "(I)I" } : Jvm.MethodName) ({ cls := "FollowedHours$Garden", name := "underSet", desc := "(I)I" } : Jvm.MethodName)) ∈ fh_T := fh_Tin 363 (by decide +kernel) rfl
set_option maxRecDepth 100000 in
theorem q_364 : (Cond.code ({ cls := "FollowedHours$Garden", name := "underSet", desc := "(I)I" } : Jvm.MethodName) prog_2_method_31_code (4 : Nat) (Option.some Jvm.ClassFile.FieldType.int)) ∈ fh_T := fh_Tin 364 (by decide +kernel) rfl
set_option maxRecDepth 100000 in
theorem q_369 : (Cond.constant "FollowedHours" (154 : Nat) (-1000004 : Int32)) ∈ fh_T := fh_Tin 369 (by decide +kernel) rfl
set_option maxRecDepth 100000 in
theorem q_374 : (Cond.methodLink "FollowedHours" (155 : Nat) ({ cls := "FollowedHours", name := "tryTicks", desc := "(I)V" } : Jvm.MethodName)) ∈ fh_T := fh_Tin 374 (by decide +kernel) rfl
set_option maxRecDepth 100000 in
theorem q_376 : (Cond.instanceMethod ({ cls := "FollowedHours", name := "tryTicks", desc := "(I)V" } : Jvm.MethodName)) ∈ fh_T := fh_Tin 376 (by decide +kernel) rfl
set_option maxRecDepth 100000 in
theorem q_377 : (Cond.code ({ cls := "FollowedHours", name := "tryTicks", desc := "(I)V" } : Jvm.MethodName) prog_1_method_52_code (2 : Nat) (Option.none : Option Jvm.ClassFile.FieldType)) ∈ fh_T := fh_Tin 377 (by decide +kernel) rfl
set_option maxRecDepth 100000 in
theorem q_378 : (Cond.methodLink "FollowedHours" (161 : Nat) ({ cls := "FollowedHours$Garden", name := "become", desc := "(LFollowedHours$Garden;)V" } : Jvm.MethodName)) ∈ fh_T := fh_Tin 378 (by decide +kernel) rfl
set_option maxRecDepth 100000 in
theorem q_379 : (Cond.instanceMethod ({ cls := "FollowedHours$Garden", name := "become", desc := "(LFollowedHours$Garden;)V" } : Jvm.MethodName)) ∈ fh_T := fh_Tin 379 (by decide +kernel) rfl
set_option maxRecDepth 100000 in
theorem q_380 : (Cond.selects "FollowedHours$Garden" ({ cls := "FollowedHours$Garden", name := "become", desc := "(LFollowedHours$Garden;)V" } : Jvm.MethodName) ({ cls := "FollowedHours$Garden", name := "become", desc := "(LFollowedHours$Garden;)V" } : Jvm.MethodName)) ∈ fh_T := fh_Tin 380 (by decide +kernel) rfl
set_option maxRecDepth 100000 in
theorem q_381 : (Cond.code ({ cls := "FollowedHours$Garden", name := "become", desc := "(LFollowedHours$Garden;)V" } : Jvm.MethodName) prog_2_method_2_code (2 : Nat) (Option.none : Option Jvm.ClassFile.FieldType)) ∈ fh_T := fh_Tin 381 (by decide +kernel) rfl
set_option maxRecDepth 100000 in
theorem q_382 : (Cond.methodLink "FollowedHours$Garden" (49 : Nat) ({ cls := "java/lang/System", name := "arraycopy", desc := "(Ljava/lang/Object;ILjava/lang/Object;II)V" } : Jvm.MethodName)) ∈ fh_T := fh_Tin 382 (by decide +kernel) rfl
set_option maxRecDepth 100000 in
theorem q_383 : (Cond.static ({ cls := "java/lang/System", name := "arraycopy", desc := "(Ljava/lang/Object;ILjava/lang/Object;II)V" } : Jvm.MethodName)) ∈ fh_T := fh_Tin 383 (by decide +kernel) rfl
set_option maxRecDepth 100000 in
theorem q_384 : (Cond.native ({ cls := "java/lang/System", name := "arraycopy", desc := "(Ljava/lang/Object;ILjava/lang/Object;II)V" } : Jvm.MethodName)) ∈ fh_T := fh_Tin 384 (by decide +kernel) rfl
set_option maxRecDepth 100000 in
theorem q_393 : (Cond.methodLink "FollowedHours" (158 : Nat) ({ cls := "FollowedHours", name := "isHour", desc := "(I)Z" } : Jvm.MethodName)) ∈ fh_T := fh_Tin 393 (by decide +kernel) rfl
set_option maxRecDepth 100000 in
theorem q_394 : (Cond.methodLink "FollowedHours" (165 : Nat) ({ cls := "FollowedHours$Garden", name := "passTick", desc := "()V" } : Jvm.MethodName)) ∈ fh_T := fh_Tin 394 (by decide +kernel) rfl
set_option maxRecDepth 100000 in
theorem q_407 : (Cond.methodLink "FollowedHours" (168 : Nat) ({ cls := "FollowedHours$Garden", name := "markGoings", desc := "()V" } : Jvm.MethodName)) ∈ fh_T := fh_Tin 407 (by decide +kernel) rfl
set_option maxRecDepth 100000 in
theorem q_408 : (Cond.instanceMethod ({ cls := "FollowedHours$Garden", name := "markGoings", desc := "()V" } : Jvm.MethodName)) ∈ fh_T := fh_Tin 408 (by decide +kernel) rfl
set_option maxRecDepth 100000 in
theorem q_409 : (Cond.selects "FollowedHours$Garden" ({ cls := "FollowedHours$Garden", name := "markGoings", desc := "()V" } : Jvm.MethodName) ({ cls := "FollowedHours$Garden", name := "markGoings", desc := "()V" } : Jvm.MethodName)) ∈ fh_T := fh_Tin 409 (by decide +kernel) rfl
set_option maxRecDepth 100000 in
theorem q_410 : (Cond.code ({ cls := "FollowedHours$Garden", name := "markGoings", desc := "()V" } : Jvm.MethodName) prog_2_method_18_code (1 : Nat) (Option.none : Option Jvm.ClassFile.FieldType)) ∈ fh_T := fh_Tin 410 (by decide +kernel) rfl
set_option maxRecDepth 100000 in
theorem q_411 : (Cond.methodLink "FollowedHours" (171 : Nat) ({ cls := "FollowedHours$Garden", name := "goesAsMarked", desc := "()Z" } : Jvm.MethodName)) ∈ fh_T := fh_Tin 411 (by decide +kernel) rfl
set_option maxRecDepth 100000 in
theorem q_412 : (Cond.instanceMethod ({ cls := "FollowedHours$Garden", name := "goesAsMarked", desc := "()Z" } : Jvm.MethodName)) ∈ fh_T := fh_Tin 412 (by decide +kernel) rfl
set_option maxRecDepth 100000 in
theorem q_413 : (Cond.selects "FollowedHours$Garden" ({ cls := "FollowedHours$Garden", name := "goesAsMarked", desc := "()Z" } : Jvm.MethodName) ({ cls := "FollowedHours$Garden", name := "goesAsMarked", desc := "()Z" } : Jvm.MethodName)) ∈ fh_T := fh_Tin 413 (by decide +kernel) rfl
set_option maxRecDepth 100000 in
theorem q_414 : (Cond.code ({ cls := "FollowedHours$Garden", name := "goesAsMarked", desc := "()Z" } : Jvm.MethodName) prog_2_method_19_code (2 : Nat) (Option.some Jvm.ClassFile.FieldType.boolean)) ∈ fh_T := fh_Tin 414 (by decide +kernel) rfl
set_option maxRecDepth 100000 in
theorem q_419 : (Cond.methodLink "FollowedHours" (177 : Nat) ({ cls := "FollowedHours", name := "distanceAs", desc := "(III)I" } : Jvm.MethodName)) ∈ fh_T := fh_Tin 419 (by decide +kernel) rfl
set_option maxRecDepth 100000 in
theorem q_421 : (Cond.instanceMethod ({ cls := "FollowedHours", name := "distanceAs", desc := "(III)I" } : Jvm.MethodName)) ∈ fh_T := fh_Tin 421 (by decide +kernel) rfl
set_option maxRecDepth 100000 in
theorem q_422 : (Cond.code ({ cls := "FollowedHours", name := "distanceAs", desc := "(III)I" } : Jvm.MethodName) prog_1_method_53_code (6 : Nat) (Option.some Jvm.ClassFile.FieldType.int)) ∈ fh_T := fh_Tin 422 (by decide +kernel) rfl
set_option maxRecDepth 100000 in
theorem q_423 : (Cond.methodLink "FollowedHours" (269 : Nat) ({ cls := "java/lang/Math", name := "abs", desc := "(I)I" } : Jvm.MethodName)) ∈ fh_T := fh_Tin 423 (by decide +kernel) rfl
set_option maxRecDepth 100000 in
theorem q_428 : (Cond.methodLink "FollowedHours" (181 : Nat) ({ cls := "FollowedHours", name := "roundHour", desc := "(I)I" } : Jvm.MethodName)) ∈ fh_T := fh_Tin 428 (by decide +kernel) rfl
set_option maxRecDepth 100000 in
theorem q_433 : (Cond.methodLink "FollowedHours" (184 : Nat) ({ cls := "FollowedHours", name := "lowestOf", desc := "(I)I" } : Jvm.MethodName)) ∈ fh_T := fh_Tin 433 (by decide +kernel) rfl
set_option maxRecDepth 100000 in
theorem q_446 : (Cond.methodLink "FollowedHours" (187 : Nat) ({ cls := "FollowedHours", name := "findingOfSheet", desc := "(I)I" } : Jvm.MethodName)) ∈ fh_T := fh_Tin 446 (by decide +kernel) rfl
set_option maxRecDepth 100000 in
theorem q_448 : (Cond.instanceMethod ({ cls := "FollowedHours", name := "findingOfSheet", desc := "(I)I" } : Jvm.MethodName)) ∈ fh_T := fh_Tin 448 (by decide +kernel) rfl
set_option maxRecDepth 100000 in
theorem q_449 : (Cond.code ({ cls := "FollowedHours", name := "findingOfSheet", desc := "(I)I" } : Jvm.MethodName) prog_1_method_51_code (2 : Nat) (Option.some Jvm.ClassFile.FieldType.int)) ∈ fh_T := fh_Tin 449 (by decide +kernel) rfl
set_option maxRecDepth 100000 in
theorem q_450 : (Cond.methodLink "FollowedHours" (232 : Nat) ({ cls := "FollowedHours", name := "isSheet", desc := "(I)Z" } : Jvm.MethodName)) ∈ fh_T := fh_Tin 450 (by decide +kernel) rfl
set_option maxRecDepth 100000 in
theorem q_451 : (Cond.static ({ cls := "FollowedHours", name := "isSheet", desc := "(I)Z" } : Jvm.MethodName)) ∈ fh_T := fh_Tin 451 (by decide +kernel) rfl
set_option maxRecDepth 100000 in
theorem q_452 : (Cond.code ({ cls := "FollowedHours", name := "isSheet", desc := "(I)Z" } : Jvm.MethodName) prog_1_method_60_code (1 : Nat) (Option.some Jvm.ClassFile.FieldType.boolean)) ∈ fh_T := fh_Tin 452 (by decide +kernel) rfl
set_option maxRecDepth 100000 in
theorem q_453 : (Cond.methodLink "FollowedHours" (243 : Nat) ({ cls := "FollowedHours$Sheet", name := "isMissing", desc := "()Z" } : Jvm.MethodName)) ∈ fh_T := fh_Tin 453 (by decide +kernel) rfl
set_option maxRecDepth 100000 in
theorem q_454 : (Cond.instanceMethod ({ cls := "FollowedHours$Sheet", name := "isMissing", desc := "()Z" } : Jvm.MethodName)) ∈ fh_T := fh_Tin 454 (by decide +kernel) rfl
set_option maxRecDepth 100000 in
theorem q_455 : (Cond.selects "FollowedHours$Sheet" ({ cls := "FollowedHours$Sheet", name := "isMissing", desc := "()Z" } : Jvm.MethodName) ({ cls := "FollowedHours$Sheet", name := "isMissing", desc := "()Z" } : Jvm.MethodName)) ∈ fh_T := fh_Tin 455 (by decide +kernel) rfl
set_option maxRecDepth 100000 in
theorem q_456 : (Cond.code ({ cls := "FollowedHours$Sheet", name := "isMissing", desc := "()Z" } : Jvm.MethodName) prog_4_method_2_code (1 : Nat) (Option.some Jvm.ClassFile.FieldType.boolean)) ∈ fh_T := fh_Tin 456 (by decide +kernel) rfl
set_option maxRecDepth 100000 in
theorem q_457 : (Cond.constant "FollowedHours" (227 : Nat) (-1000006 : Int32)) ∈ fh_T := fh_Tin 457 (by decide +kernel) rfl
set_option maxRecDepth 100000 in
theorem q_458 : (Cond.methodLink "FollowedHours" (193 : Nat) ({ cls := "FollowedHours", name := "triedShowsAs", desc := "(LFollowedHours$Sheet;I)Z" } : Jvm.MethodName)) ∈ fh_T := fh_Tin 458 (by decide +kernel) rfl
set_option maxRecDepth 100000 in
theorem q_460 : (Cond.instanceMethod ({ cls := "FollowedHours", name := "triedShowsAs", desc := "(LFollowedHours$Sheet;I)Z" } : Jvm.MethodName)) ∈ fh_T := fh_Tin 460 (by decide +kernel) rfl
set_option maxRecDepth 100000 in
theorem q_461 : (Cond.code ({ cls := "FollowedHours", name := "triedShowsAs", desc := "(LFollowedHours$Sheet;I)Z" } : Jvm.MethodName) prog_1_method_54_code (5 : Nat) (Option.some Jvm.ClassFile.FieldType.boolean)) ∈ fh_T := fh_Tin 461 (by decide +kernel) rfl
set_option maxRecDepth 100000 in
theorem q_470 : (Cond.methodLink "FollowedHours" (200 : Nat) ({ cls := "FollowedHours", name := "hoursBetween", desc := "(II)I" } : Jvm.MethodName)) ∈ fh_T := fh_Tin 470 (by decide +kernel) rfl
set_option maxRecDepth 100000 in
theorem q_471 : (Cond.static ({ cls := "FollowedHours", name := "hoursBetween", desc := "(II)I" } : Jvm.MethodName)) ∈ fh_T := fh_Tin 471 (by decide +kernel) rfl
set_option maxRecDepth 100000 in
theorem q_472 : (Cond.code ({ cls := "FollowedHours", name := "hoursBetween", desc := "(II)I" } : Jvm.MethodName) prog_1_method_64_code (3 : Nat) (Option.some Jvm.ClassFile.FieldType.int)) ∈ fh_T := fh_Tin 472 (by decide +kernel) rfl
set_option maxRecDepth 100000 in
theorem q_473 : (Cond.methodLink "FollowedHours" (261 : Nat) ({ cls := "java/lang/Math", name := "min", desc := "(II)I" } : Jvm.MethodName)) ∈ fh_T := fh_Tin 473 (by decide +kernel) rfl
set_option maxRecDepth 100000 in
theorem q_478 : (Cond.methodLink "FollowedHours" (204 : Nat) ({ cls := "FollowedHours", name := "stillIfStopped", desc := "(II)I" } : Jvm.MethodName)) ∈ fh_T := fh_Tin 478 (by decide +kernel) rfl
set_option maxRecDepth 100000 in
theorem q_480 : (Cond.instanceMethod ({ cls := "FollowedHours", name := "stillIfStopped", desc := "(II)I" } : Jvm.MethodName)) ∈ fh_T := fh_Tin 480 (by decide +kernel) rfl
set_option maxRecDepth 100000 in
theorem q_481 : (Cond.code ({ cls := "FollowedHours", name := "stillIfStopped", desc := "(II)I" } : Jvm.MethodName) prog_1_method_55_code (4 : Nat) (Option.some Jvm.ClassFile.FieldType.int)) ∈ fh_T := fh_Tin 481 (by decide +kernel) rfl
set_option maxRecDepth 100000 in
theorem q_482 : (Cond.methodLink "FollowedHours" (272 : Nat) ({ cls := "FollowedHours", name := "isIn", desc := "(II)Z" } : Jvm.MethodName)) ∈ fh_T := fh_Tin 482 (by decide +kernel) rfl
set_option maxRecDepth 100000 in
theorem q_483 : (Cond.methodLink "FollowedHours" (275 : Nat) ({ cls := "FollowedHours$Garden", name := "passTicksForGoings", desc := "(I)V" } : Jvm.MethodName)) ∈ fh_T := fh_Tin 483 (by decide +kernel) rfl
set_option maxRecDepth 100000 in
theorem q_484 : (Cond.instanceMethod ({ cls := "FollowedHours$Garden", name := "passTicksForGoings", desc := "(I)V" } : Jvm.MethodName)) ∈ fh_T := fh_Tin 484 (by decide +kernel) rfl
set_option maxRecDepth 100000 in
theorem q_485 : (Cond.selects "FollowedHours$Garden" ({ cls := "FollowedHours$Garden", name := "passTicksForGoings", desc := "(I)V" } : Jvm.MethodName) ({ cls := "FollowedHours$Garden", name := "passTicksForGoings", desc := "(I)V" } : Jvm.MethodName)) ∈ fh_T := fh_Tin 485 (by decide +kernel) rfl
set_option maxRecDepth 100000 in
theorem q_486 : (Cond.code ({ cls := "FollowedHours$Garden", name := "passTicksForGoings", desc := "(I)V" } : Jvm.MethodName) prog_2_method_17_code (4 : Nat) (Option.none : Option Jvm.ClassFile.FieldType)) ∈ fh_T := fh_Tin 486 (by decide +kernel) rfl
set_option maxRecDepth 100000 in
theorem q_487 : (Cond.methodLink "FollowedHours$Garden" (103 : Nat) ({ cls := "FollowedHours$Garden", name := "markGoings", desc := "()V" } : Jvm.MethodName)) ∈ fh_T := fh_Tin 487 (by decide +kernel) rfl
set_option maxRecDepth 100000 in
theorem q_488 : (Cond.methodLink "FollowedHours$Garden" (106 : Nat) ({ cls := "FollowedHours$Garden", name := "goesAsMarked", desc := "()Z" } : Jvm.MethodName)) ∈ fh_T := fh_Tin 488 (by decide +kernel) rfl
set_option maxRecDepth 100000 in
theorem q_501 : (Cond.methodLink "FollowedHours" (207 : Nat) ({ cls := "FollowedHours$Garden", name := "draw", desc := "()I" } : Jvm.MethodName)) ∈ fh_T := fh_Tin 501 (by decide +kernel) rfl
set_option maxRecDepth 100000 in
theorem q_502 : (Cond.instanceMethod ({ cls := "FollowedHours$Garden", name := "draw", desc := "()I" } : Jvm.MethodName)) ∈ fh_T := fh_Tin 502 (by decide +kernel) rfl
set_option maxRecDepth 100000 in
theorem q_503 : (Cond.selects "FollowedHours$Garden" ({ cls := "FollowedHours$Garden", name := "draw", desc := "()I" } : Jvm.MethodName) ({ cls := "FollowedHours$Garden", name := "draw", desc := "()I" } : Jvm.MethodName)) ∈ fh_T := fh_Tin 503 (by decide +kernel) rfl
set_option maxRecDepth 100000 in
theorem q_504 : (Cond.code ({ cls := "FollowedHours$Garden", name := "draw", desc := "()I" } : Jvm.MethodName) prog_2_method_11_code (1 : Nat) (Option.some Jvm.ClassFile.FieldType.int)) ∈ fh_T := fh_Tin 504 (by decide +kernel) rfl
set_option maxRecDepth 100000 in
theorem q_505 : (Cond.constant "FollowedHours$Garden" (79 : Nat) (1103515245 : Int32)) ∈ fh_T := fh_Tin 505 (by decide +kernel) rfl
set_option maxRecDepth 100000 in
theorem q_518 : (Cond.methodLink "FollowedHours" (214 : Nat) ({ cls := "FollowedHours$Tape", name := "append", desc := "(I)V" } : Jvm.MethodName)) ∈ fh_T := fh_Tin 518 (by decide +kernel) rfl
set_option maxRecDepth 100000 in
theorem q_519 : (Cond.instanceMethod ({ cls := "FollowedHours$Tape", name := "append", desc := "(I)V" } : Jvm.MethodName)) ∈ fh_T := fh_Tin 519 (by decide +kernel) rfl
set_option maxRecDepth 100000 in
theorem q_520 : (Cond.selects "FollowedHours$Tape" ({ cls := "FollowedHours$Tape", name := "append", desc := "(I)V" } : Jvm.MethodName) ({ cls := "FollowedHours$Tape", name := "append", desc := "(I)V" } : Jvm.MethodName)) ∈ fh_T := fh_Tin 520 (by decide +kernel) rfl
set_option maxRecDepth 100000 in
theorem q_521 : (Cond.code ({ cls := "FollowedHours$Tape", name := "append", desc := "(I)V" } : Jvm.MethodName) prog_5_method_2_code (2 : Nat) (Option.none : Option Jvm.ClassFile.FieldType)) ∈ fh_T := fh_Tin 521 (by decide +kernel) rfl
set_option maxRecDepth 100000 in
theorem q_530 : (Cond.methodLink "FollowedHours" (217 : Nat) ({ cls := "FollowedHours$Reader", name := "readInto", desc := "(LFollowedHours$Garden;)I" } : Jvm.MethodName)) ∈ fh_T := fh_Tin 530 (by decide +kernel) rfl
set_option maxRecDepth 100000 in
theorem q_531 : (Cond.instanceMethod ({ cls := "FollowedHours$Reader", name := "readInto", desc := "(LFollowedHours$Garden;)I" } : Jvm.MethodName)) ∈ fh_T := fh_Tin 531 (by decide +kernel) rfl
set_option maxRecDepth 100000 in
theorem q_532 : (Cond.selects "FollowedHours$Reader" ({ cls := "FollowedHours$Reader", name := "readInto", desc := "(LFollowedHours$Garden;)I" } : Jvm.MethodName) ({ cls := "FollowedHours$Reader", name := "readInto", desc := "(LFollowedHours$Garden;)I" } : Jvm.MethodName)) ∈ fh_T := fh_Tin 532 (by decide +kernel) rfl
set_option maxRecDepth 100000 in
theorem q_533 : (Cond.code ({ cls := "FollowedHours$Reader", name := "readInto", desc := "(LFollowedHours$Garden;)I" } : Jvm.MethodName) prog_3_method_2_code (4 : Nat) (Option.some Jvm.ClassFile.FieldType.int)) ∈ fh_T := fh_Tin 533 (by decide +kernel) rfl
set_option maxRecDepth 100000 in
theorem q_534 : (Cond.methodLink "FollowedHours$Reader" (22 : Nat) ({ cls := "FollowedHours$Reader", name := "findToken", desc := "()V" } : Jvm.MethodName)) ∈ fh_T := fh_Tin 534 (by decide +kernel) rfl
set_option maxRecDepth 100000 in
theorem q_536 : (Cond.instanceMethod ({ cls := "FollowedHours$Reader", name := "findToken", desc := "()V" } : Jvm.MethodName)) ∈ fh_T := fh_Tin 536 (by decide +kernel) rfl
set_option maxRecDepth 100000 in
theorem q_537 : (Cond.code ({ cls := "FollowedHours$Reader", name := "findToken", desc := "()V" } : Jvm.MethodName) prog_3_method_12_code (2 : Nat) (Option.none : Option Jvm.ClassFile.FieldType)) ∈ fh_T := fh_Tin 537 (by decide +kernel) rfl
set_option maxRecDepth 100000 in
theorem q_538 : (Cond.methodLink "FollowedHours$Reader" (101 : Nat) ({ cls := "FollowedHours$Tape", name := "byteAt", desc := "(I)I" } : Jvm.MethodName)) ∈ fh_T := fh_Tin 538 (by decide +kernel) rfl
set_option maxRecDepth 100000 in
theorem q_539 : (Cond.instanceMethod ({ cls := "FollowedHours$Tape", name := "byteAt", desc := "(I)I" } : Jvm.MethodName)) ∈ fh_T := fh_Tin 539 (by decide +kernel) rfl
set_option maxRecDepth 100000 in
theorem q_540 : (Cond.selects "FollowedHours$Tape" ({ cls := "FollowedHours$Tape", name := "byteAt", desc := "(I)I" } : Jvm.MethodName) ({ cls := "FollowedHours$Tape", name := "byteAt", desc := "(I)I" } : Jvm.MethodName)) ∈ fh_T := fh_Tin 540 (by decide +kernel) rfl
set_option maxRecDepth 100000 in
theorem q_541 : (Cond.code ({ cls := "FollowedHours$Tape", name := "byteAt", desc := "(I)I" } : Jvm.MethodName) prog_5_method_3_code (2 : Nat) (Option.some Jvm.ClassFile.FieldType.int)) ∈ fh_T := fh_Tin 541 (by decide +kernel) rfl
set_option maxRecDepth 100000 in
theorem q_542 : (Cond.methodLink "FollowedHours$Reader" (139 : Nat) ({ cls := "FollowedHours$Reader", name := "isLetter", desc := "(I)Z" } : Jvm.MethodName)) ∈ fh_T := fh_Tin 542 (by decide +kernel) rfl
set_option maxRecDepth 100000 in
theorem q_543 : (Cond.static ({ cls := "FollowedHours$Reader", name := "isLetter", desc := "(I)Z" } : Jvm.MethodName)) ∈ fh_T := fh_Tin 543 (by decide +kernel) rfl
set_option maxRecDepth 100000 in
theorem q_544 : (Cond.code ({ cls := "FollowedHours$Reader", name := "isLetter", desc := "(I)Z" } : Jvm.MethodName) prog_3_method_15_code (1 : Nat) (Option.some Jvm.ClassFile.FieldType.boolean)) ∈ fh_T := fh_Tin 544 (by decide +kernel) rfl
set_option maxRecDepth 100000 in
theorem q_545 : (Cond.methodLink "FollowedHours$Reader" (142 : Nat) ({ cls := "FollowedHours$Reader", name := "readLetters", desc := "()V" } : Jvm.MethodName)) ∈ fh_T := fh_Tin 545 (by decide +kernel) rfl
set_option maxRecDepth 100000 in
theorem q_547 : (Cond.instanceMethod ({ cls := "FollowedHours$Reader", name := "readLetters", desc := "()V" } : Jvm.MethodName)) ∈ fh_T := fh_Tin 547 (by decide +kernel) rfl
set_option maxRecDepth 100000 in
theorem q_548 : (Cond.code ({ cls := "FollowedHours$Reader", name := "readLetters", desc := "()V" } : Jvm.MethodName) prog_3_method_13_code (1 : Nat) (Option.none : Option Jvm.ClassFile.FieldType)) ∈ fh_T := fh_Tin 548 (by decide +kernel) rfl
set_option maxRecDepth 100000 in
theorem q_549 : (Cond.methodLink "FollowedHours$Reader" (145 : Nat) ({ cls := "FollowedHours$Reader", name := "isDigit", desc := "(I)Z" } : Jvm.MethodName)) ∈ fh_T := fh_Tin 549 (by decide +kernel) rfl
set_option maxRecDepth 100000 in
theorem q_550 : (Cond.static ({ cls := "FollowedHours$Reader", name := "isDigit", desc := "(I)Z" } : Jvm.MethodName)) ∈ fh_T := fh_Tin 550 (by decide +kernel) rfl
set_option maxRecDepth 100000 in
theorem q_551 : (Cond.code ({ cls := "FollowedHours$Reader", name := "isDigit", desc := "(I)Z" } : Jvm.MethodName) prog_3_method_16_code (1 : Nat) (Option.some Jvm.ClassFile.FieldType.boolean)) ∈ fh_T := fh_Tin 551 (by decide +kernel) rfl
set_option maxRecDepth 100000 in
theorem q_552 : (Cond.methodLink "FollowedHours$Reader" (148 : Nat) ({ cls := "FollowedHours$Reader", name := "readDigits", desc := "()V" } : Jvm.MethodName)) ∈ fh_T := fh_Tin 552 (by decide +kernel) rfl
set_option maxRecDepth 100000 in
theorem q_554 : (Cond.instanceMethod ({ cls := "FollowedHours$Reader", name := "readDigits", desc := "()V" } : Jvm.MethodName)) ∈ fh_T := fh_Tin 554 (by decide +kernel) rfl
set_option maxRecDepth 100000 in
theorem q_555 : (Cond.code ({ cls := "FollowedHours$Reader", name := "readDigits", desc := "()V" } : Jvm.MethodName) prog_3_method_14_code (1 : Nat) (Option.none : Option Jvm.ClassFile.FieldType)) ∈ fh_T := fh_Tin 555 (by decide +kernel) rfl
set_option maxRecDepth 100000 in
theorem q_556 : (Cond.methodLink "FollowedHours$Reader" (151 : Nat) ({ cls := "java/lang/Math", name := "min", desc := "(II)I" } : Jvm.MethodName)) ∈ fh_T := fh_Tin 556 (by decide +kernel) rfl
set_option maxRecDepth 100000 in
theorem q_558 : (Cond.methodLink "FollowedHours$Reader" (27 : Nat) ({ cls := "FollowedHours$Reader", name := "takeWord", desc := "(Ljava/lang/String;)Z" } : Jvm.MethodName)) ∈ fh_T := fh_Tin 558 (by decide +kernel) rfl
set_option maxRecDepth 100000 in
theorem q_560 : (Cond.instanceMethod ({ cls := "FollowedHours$Reader", name := "takeWord", desc := "(Ljava/lang/String;)Z" } : Jvm.MethodName)) ∈ fh_T := fh_Tin 560 (by decide +kernel) rfl
set_option maxRecDepth 100000 in
theorem q_561 : (Cond.code ({ cls := "FollowedHours$Reader", name := "takeWord", desc := "(Ljava/lang/String;)Z" } : Jvm.MethodName) prog_3_method_6_code (2 : Nat) (Option.some Jvm.ClassFile.FieldType.boolean)) ∈ fh_T := fh_Tin 561 (by decide +kernel) rfl
set_option maxRecDepth 100000 in
theorem q_562 : (Cond.methodLink "FollowedHours$Reader" (98 : Nat) ({ cls := "FollowedHours$Reader", name := "isWord", desc := "(Ljava/lang/String;)Z" } : Jvm.MethodName)) ∈ fh_T := fh_Tin 562 (by decide +kernel) rfl
set_option maxRecDepth 100000 in
theorem q_564 : (Cond.instanceMethod ({ cls := "FollowedHours$Reader", name := "isWord", desc := "(Ljava/lang/String;)Z" } : Jvm.MethodName)) ∈ fh_T := fh_Tin 564 (by decide +kernel) rfl
set_option maxRecDepth 100000 in
theorem q_565 : (Cond.code ({ cls := "FollowedHours$Reader", name := "isWord", desc := "(Ljava/lang/String;)Z" } : Jvm.MethodName) prog_3_method_9_code (3 : Nat) (Option.some Jvm.ClassFile.FieldType.boolean)) ∈ fh_T := fh_Tin 565 (by decide +kernel) rfl
set_option maxRecDepth 100000 in
theorem q_566 : (Cond.methodLink "FollowedHours$Reader" (109 : Nat) ({ cls := "java/lang/String", name := "length", desc := "()I" } : Jvm.MethodName)) ∈ fh_T := fh_Tin 566 (by decide +kernel) rfl
set_option maxRecDepth 100000 in
theorem q_567 : (Cond.instanceMethod ({ cls := "java/lang/String", name := "length", desc := "()I" } : Jvm.MethodName)) ∈ fh_T := fh_Tin 567 (by decide +kernel) rfl
set_option maxRecDepth 100000 in
theorem q_568 : (Cond.selects "java/lang/String" ({ cls := "java/lang/String", name := "length", desc := "()I" } : Jvm.MethodName) ({ cls := "java/lang/String", name := "length", desc := "()I" } : Jvm.MethodName)) ∈ fh_T := fh_Tin 568 (by decide +kernel) rfl
set_option maxRecDepth 100000 in
theorem q_569 : (Cond.code ({ cls := "java/lang/String", name := "length", desc := "()I" } : Jvm.MethodName) prog_10_method_54_code (1 : Nat) (Option.some Jvm.ClassFile.FieldType.int)) ∈ fh_T := fh_Tin 569 (by decide +kernel) rfl
set_option maxRecDepth 100000 in
theorem q_570 : (Cond.methodLink "java/lang/String" (335 : Nat) ({ cls := "java/lang/String", name := "coder", desc := "()B" } : Jvm.MethodName)) ∈ fh_T := fh_Tin 570 (by decide +kernel) rfl
set_option maxRecDepth 100000 in
theorem q_571 : (Cond.instanceMethod ({ cls := "java/lang/String", name := "coder", desc := "()B" } : Jvm.MethodName)) ∈ fh_T := fh_Tin 571 (by decide +kernel) rfl
set_option maxRecDepth 100000 in
theorem q_572 : (Cond.selects "java/lang/String" ({ cls := "java/lang/String", name := "coder", desc := "()B" } : Jvm.MethodName) ({ cls := "java/lang/String", name := "coder", desc := "()B" } : Jvm.MethodName)) ∈ fh_T := fh_Tin 572 (by decide +kernel) rfl
set_option maxRecDepth 100000 in
theorem q_573 : (Cond.code ({ cls := "java/lang/String", name := "coder", desc := "()B" } : Jvm.MethodName) prog_10_method_152_code (1 : Nat) (Option.some Jvm.ClassFile.FieldType.byte)) ∈ fh_T := fh_Tin 573 (by decide +kernel) rfl
set_option maxRecDepth 100000 in
theorem q_574 : (Cond.fieldLink "java/lang/String" (38 : Nat) "java/lang/String" "COMPACT_STRINGS" "Z") ∈ fh_T := fh_Tin 574 (by decide +kernel) rfl
set_option maxRecDepth 100000 in
theorem q_576 : (Cond.methodLink "FollowedHours$Reader" (114 : Nat) ({ cls := "java/lang/String", name := "charAt", desc := "(I)C" } : Jvm.MethodName)) ∈ fh_T := fh_Tin 576 (by decide +kernel) rfl
set_option maxRecDepth 100000 in
theorem q_577 : (Cond.instanceMethod ({ cls := "java/lang/String", name := "charAt", desc := "(I)C" } : Jvm.MethodName)) ∈ fh_T := fh_Tin 577 (by decide +kernel) rfl
set_option maxRecDepth 100000 in
theorem q_578 : (Cond.selects "java/lang/String" ({ cls := "java/lang/String", name := "charAt", desc := "(I)C" } : Jvm.MethodName) ({ cls := "java/lang/String", name := "charAt", desc := "(I)C" } : Jvm.MethodName)) ∈ fh_T := fh_Tin 578 (by decide +kernel) rfl
set_option maxRecDepth 100000 in
theorem q_579 : (Cond.code ({ cls := "java/lang/String", name := "charAt", desc := "(I)C" } : Jvm.MethodName) prog_10_method_56_code (2 : Nat) (Option.some Jvm.ClassFile.FieldType.char)) ∈ fh_T := fh_Tin 579 (by decide +kernel) rfl
set_option maxRecDepth 100000 in
theorem q_580 : (Cond.methodLink "java/lang/String" (492 : Nat) ({ cls := "java/lang/String", name := "isLatin1", desc := "()Z" } : Jvm.MethodName)) ∈ fh_T := fh_Tin 580 (by decide +kernel) rfl
set_option maxRecDepth 100000 in
theorem q_581 : (Cond.instanceMethod ({ cls := "java/lang/String", name := "isLatin1", desc := "()Z" } : Jvm.MethodName)) ∈ fh_T := fh_Tin 581 (by decide +kernel) rfl
set_option maxRecDepth 100000 in
theorem q_582 : (Cond.selects "java/lang/String" ({ cls := "java/lang/String", name := "isLatin1", desc := "()Z" } : Jvm.MethodName) ({ cls := "java/lang/String", name := "isLatin1", desc := "()Z" } : Jvm.MethodName)) ∈ fh_T := fh_Tin 582 (by decide +kernel) rfl
set_option maxRecDepth 100000 in
theorem q_583 : (Cond.code ({ cls := "java/lang/String", name := "isLatin1", desc := "()Z" } : Jvm.MethodName) prog_10_method_154_code (1 : Nat) (Option.some Jvm.ClassFile.FieldType.boolean)) ∈ fh_T := fh_Tin 583 (by decide +kernel) rfl
set_option maxRecDepth 100000 in
theorem q_584 : (Cond.methodLink "java/lang/String" (495 : Nat) ({ cls := "java/lang/StringLatin1", name := "charAt", desc := "([BI)C" } : Jvm.MethodName)) ∈ fh_T := fh_Tin 584 (by decide +kernel) rfl
set_option maxRecDepth 100000 in
theorem q_585 : (Cond.static ({ cls := "java/lang/StringLatin1", name := "charAt", desc := "([BI)C" } : Jvm.MethodName)) ∈ fh_T := fh_Tin 585 (by decide +kernel) rfl
set_option maxRecDepth 100000 in
theorem q_586 : (Cond.code ({ cls := "java/lang/StringLatin1", name := "charAt", desc := "([BI)C" } : Jvm.MethodName) prog_11_method_2_code (2 : Nat) (Option.some Jvm.ClassFile.FieldType.char)) ∈ fh_T := fh_Tin 586 (by decide +kernel) rfl
set_option maxRecDepth 100000 in
theorem q_587 : (Cond.methodLink "java/lang/StringLatin1" (9 : Nat) ({ cls := "java/lang/String", name := "checkIndex", desc := "(II)V" } : Jvm.MethodName)) ∈ fh_T := fh_Tin 587 (by decide +kernel) rfl
set_option maxRecDepth 100000 in
theorem q_588 : (Cond.static ({ cls := "java/lang/String", name := "checkIndex", desc := "(II)V" } : Jvm.MethodName)) ∈ fh_T := fh_Tin 588 (by decide +kernel) rfl
set_option maxRecDepth 100000 in
theorem q_589 : (Cond.code ({ cls := "java/lang/String", name := "checkIndex", desc := "(II)V" } : Jvm.MethodName) prog_10_method_155_code (2 : Nat) (Option.none : Option Jvm.ClassFile.FieldType)) ∈ fh_T := fh_Tin 589 (by decide +kernel) rfl
set_option maxRecDepth 100000 in
theorem q_590 : (Cond.fieldLink "java/lang/String" (1053 : Nat) "jdk/internal/util/Preconditions" "SIOOBE_FORMATTER" "Ljava/util/function/BiFunction;") ∈ fh_T := fh_Tin 590 (by decide +kernel) rfl
set_option maxRecDepth 100000 in
theorem q_592 : (Cond.methodLink "java/lang/String" (1059 : Nat) ({ cls := "jdk/internal/util/Preconditions", name := "checkIndex", desc := "(IILjava/util/function/BiFunction;)I" } : Jvm.MethodName)) ∈ fh_T := fh_Tin 592 (by decide +kernel) rfl
set_option maxRecDepth 100000 in
theorem q_593 : (Cond.static ({ cls := "jdk/internal/util/Preconditions", name := "checkIndex", desc := "(IILjava/util/function/BiFunction;)I" } : Jvm.MethodName)) ∈ fh_T := fh_Tin 593 (by decide +kernel) rfl
set_option maxRecDepth 100000 in
theorem q_594 : (Cond.code ({ cls := "jdk/internal/util/Preconditions", name := "checkIndex", desc := "(IILjava/util/function/BiFunction;)I" } : Jvm.MethodName) prog_14_method_11_code (3 : Nat) (Option.some Jvm.ClassFile.FieldType.int)) ∈ fh_T := fh_Tin 594 (by decide +kernel) rfl
set_option maxRecDepth 100000 in
theorem q_614 : (Cond.methodLink "FollowedHours$Reader" (31 : Nat) ({ cls := "FollowedHours$Reader", name := "readMaster", desc := "(LFollowedHours$Garden;)V" } : Jvm.MethodName)) ∈ fh_T := fh_Tin 614 (by decide +kernel) rfl
set_option maxRecDepth 100000 in
theorem q_616 : (Cond.instanceMethod ({ cls := "FollowedHours$Reader", name := "readMaster", desc := "(LFollowedHours$Garden;)V" } : Jvm.MethodName)) ∈ fh_T := fh_Tin 616 (by decide +kernel) rfl
set_option maxRecDepth 100000 in
theorem q_617 : (Cond.code ({ cls := "FollowedHours$Reader", name := "readMaster", desc := "(LFollowedHours$Garden;)V" } : Jvm.MethodName) prog_3_method_3_code (4 : Nat) (Option.none : Option Jvm.ClassFile.FieldType)) ∈ fh_T := fh_Tin 617 (by decide +kernel) rfl
set_option maxRecDepth 100000 in
theorem q_618 : (Cond.methodLink "FollowedHours$Reader" (53 : Nat) ({ cls := "FollowedHours$Reader", name := "takeNumber", desc := "(I)I" } : Jvm.MethodName)) ∈ fh_T := fh_Tin 618 (by decide +kernel) rfl
set_option maxRecDepth 100000 in
theorem q_620 : (Cond.instanceMethod ({ cls := "FollowedHours$Reader", name := "takeNumber", desc := "(I)I" } : Jvm.MethodName)) ∈ fh_T := fh_Tin 620 (by decide +kernel) rfl
set_option maxRecDepth 100000 in
theorem q_621 : (Cond.code ({ cls := "FollowedHours$Reader", name := "takeNumber", desc := "(I)I" } : Jvm.MethodName) prog_3_method_8_code (3 : Nat) (Option.some Jvm.ClassFile.FieldType.int)) ∈ fh_T := fh_Tin 621 (by decide +kernel) rfl
set_option maxRecDepth 100000 in
theorem q_622 : (Cond.methodLink "FollowedHours$Reader" (45 : Nat) ({ cls := "FollowedHours$Reader", name := "refuse", desc := "()V" } : Jvm.MethodName)) ∈ fh_T := fh_Tin 622 (by decide +kernel) rfl
set_option maxRecDepth 100000 in
theorem q_624 : (Cond.instanceMethod ({ cls := "FollowedHours$Reader", name := "refuse", desc := "()V" } : Jvm.MethodName)) ∈ fh_T := fh_Tin 624 (by decide +kernel) rfl
set_option maxRecDepth 100000 in
theorem q_625 : (Cond.code ({ cls := "FollowedHours$Reader", name := "refuse", desc := "()V" } : Jvm.MethodName) prog_3_method_5_code (1 : Nat) (Option.none : Option Jvm.ClassFile.FieldType)) ∈ fh_T := fh_Tin 625 (by decide +kernel) rfl
set_option maxRecDepth 100000 in
theorem q_626 : (Cond.methodLink "FollowedHours$Reader" (35 : Nat) ({ cls := "FollowedHours$Reader", name := "readDial", desc := "(LFollowedHours$Garden;)V" } : Jvm.MethodName)) ∈ fh_T := fh_Tin 626 (by decide +kernel) rfl
set_option maxRecDepth 100000 in
theorem q_628 : (Cond.instanceMethod ({ cls := "FollowedHours$Reader", name := "readDial", desc := "(LFollowedHours$Garden;)V" } : Jvm.MethodName)) ∈ fh_T := fh_Tin 628 (by decide +kernel) rfl
set_option maxRecDepth 100000 in
theorem q_629 : (Cond.code ({ cls := "FollowedHours$Reader", name := "readDial", desc := "(LFollowedHours$Garden;)V" } : Jvm.MethodName) prog_3_method_4_code (5 : Nat) (Option.none : Option Jvm.ClassFile.FieldType)) ∈ fh_T := fh_Tin 629 (by decide +kernel) rfl
set_option maxRecDepth 100000 in
theorem q_630 : (Cond.methodLink "FollowedHours$Reader" (61 : Nat) ({ cls := "FollowedHours$Reader", name := "kindOfWord", desc := "()I" } : Jvm.MethodName)) ∈ fh_T := fh_Tin 630 (by decide +kernel) rfl
set_option maxRecDepth 100000 in
theorem q_632 : (Cond.instanceMethod ({ cls := "FollowedHours$Reader", name := "kindOfWord", desc := "()I" } : Jvm.MethodName)) ∈ fh_T := fh_Tin 632 (by decide +kernel) rfl
set_option maxRecDepth 100000 in
theorem q_633 : (Cond.code ({ cls := "FollowedHours$Reader", name := "kindOfWord", desc := "()I" } : Jvm.MethodName) prog_3_method_10_code (2 : Nat) (Option.some Jvm.ClassFile.FieldType.int)) ∈ fh_T := fh_Tin 633 (by decide +kernel) rfl
set_option maxRecDepth 100000 in
theorem q_635 : (Cond.methodLink "FollowedHours$Reader" (121 : Nat) ({ cls := "FollowedHours$Reader", name := "wordOfKind", desc := "(I)Ljava/lang/String;" } : Jvm.MethodName)) ∈ fh_T := fh_Tin 635 (by decide +kernel) rfl
set_option maxRecDepth 100000 in
theorem q_636 : (Cond.static ({ cls := "FollowedHours$Reader", name := "wordOfKind", desc := "(I)Ljava/lang/String;" } : Jvm.MethodName)) ∈ fh_T := fh_Tin 636 (by decide +kernel) rfl
set_option maxRecDepth 100000 in
theorem q_637 : (Cond.code ({ cls := "FollowedHours$Reader", name := "wordOfKind", desc := "(I)Ljava/lang/String;" } : Jvm.MethodName) prog_3_method_11_code (1 : Nat) (Option.some (Jvm.ClassFile.FieldType.object "java/lang/String"))) ∈ fh_T := fh_Tin 637 (by decide +kernel) rfl
set_option maxRecDepth 100000 in
theorem q_645 : (Cond.methodLink "FollowedHours$Reader" (65 : Nat) ({ cls := "FollowedHours$Garden", name := "isFull", desc := "()Z" } : Jvm.MethodName)) ∈ fh_T := fh_Tin 645 (by decide +kernel) rfl
set_option maxRecDepth 100000 in
theorem q_646 : (Cond.methodLink "FollowedHours$Reader" (69 : Nat) ({ cls := "FollowedHours$Garden", name := "add", desc := "(I)I" } : Jvm.MethodName)) ∈ fh_T := fh_Tin 646 (by decide +kernel) rfl
set_option maxRecDepth 100000 in
theorem q_650 : (Cond.methodLink "FollowedHours$Reader" (38 : Nat) ({ cls := "FollowedHours$Reader", name := "takeSign", desc := "(C)Z" } : Jvm.MethodName)) ∈ fh_T := fh_Tin 650 (by decide +kernel) rfl
set_option maxRecDepth 100000 in
theorem q_652 : (Cond.instanceMethod ({ cls := "FollowedHours$Reader", name := "takeSign", desc := "(C)Z" } : Jvm.MethodName)) ∈ fh_T := fh_Tin 652 (by decide +kernel) rfl
set_option maxRecDepth 100000 in
theorem q_653 : (Cond.code ({ cls := "FollowedHours$Reader", name := "takeSign", desc := "(C)Z" } : Jvm.MethodName) prog_3_method_7_code (2 : Nat) (Option.some Jvm.ClassFile.FieldType.boolean)) ∈ fh_T := fh_Tin 653 (by decide +kernel) rfl
set_option maxRecDepth 100000 in
theorem q_656 : (Cond.methodLink "FollowedHours$Reader" (91 : Nat) ({ cls := "FollowedHours$Garden", name := "freeze", desc := "(I)Z" } : Jvm.MethodName)) ∈ fh_T := fh_Tin 656 (by decide +kernel) rfl
set_option maxRecDepth 100000 in
theorem q_662 : (Cond.methodLink "FollowedHours" (221 : Nat) ({ cls := "FollowedHours", name := "isSpot", desc := "(I)Z" } : Jvm.MethodName)) ∈ fh_T := fh_Tin 662 (by decide +kernel) rfl
set_option maxRecDepth 100000 in
theorem q_663 : (Cond.static ({ cls := "FollowedHours", name := "isSpot", desc := "(I)Z" } : Jvm.MethodName)) ∈ fh_T := fh_Tin 663 (by decide +kernel) rfl
set_option maxRecDepth 100000 in
theorem q_664 : (Cond.code ({ cls := "FollowedHours", name := "isSpot", desc := "(I)Z" } : Jvm.MethodName) prog_1_method_59_code (1 : Nat) (Option.some Jvm.ClassFile.FieldType.boolean)) ∈ fh_T := fh_Tin 664 (by decide +kernel) rfl
set_option maxRecDepth 100000 in
theorem q_669 : (Cond.methodLink "FollowedHours" (228 : Nat) ({ cls := "FollowedHours", name := "isOfKind", desc := "(II)Z" } : Jvm.MethodName)) ∈ fh_T := fh_Tin 669 (by decide +kernel) rfl
set_option maxRecDepth 100000 in
theorem q_670 : (Cond.static ({ cls := "FollowedHours", name := "isOfKind", desc := "(II)Z" } : Jvm.MethodName)) ∈ fh_T := fh_Tin 670 (by decide +kernel) rfl
set_option maxRecDepth 100000 in
theorem q_671 : (Cond.code ({ cls := "FollowedHours", name := "isOfKind", desc := "(II)Z" } : Jvm.MethodName) prog_1_method_65_code (4 : Nat) (Option.some Jvm.ClassFile.FieldType.boolean)) ∈ fh_T := fh_Tin 671 (by decide +kernel) rfl
set_option maxRecDepth 100000 in
theorem q_672 : (Cond.constant "FollowedHours" (231 : Nat) (-1000003 : Int32)) ∈ fh_T := fh_Tin 672 (by decide +kernel) rfl
set_option maxRecDepth 100000 in
theorem q_677 : (Cond.constant "FollowedHours" (235 : Nat) (-1000007 : Int32)) ∈ fh_T := fh_Tin 677 (by decide +kernel) rfl
set_option maxRecDepth 100000 in
theorem q_678 : (Cond.methodLink "FollowedHours" (236 : Nat) ({ cls := "FollowedHours$Sheet", name := "layOut", desc := "(II)V" } : Jvm.MethodName)) ∈ fh_T := fh_Tin 678 (by decide +kernel) rfl
set_option maxRecDepth 100000 in
theorem q_679 : (Cond.instanceMethod ({ cls := "FollowedHours$Sheet", name := "layOut", desc := "(II)V" } : Jvm.MethodName)) ∈ fh_T := fh_Tin 679 (by decide +kernel) rfl
set_option maxRecDepth 100000 in
theorem q_680 : (Cond.selects "FollowedHours$Sheet" ({ cls := "FollowedHours$Sheet", name := "layOut", desc := "(II)V" } : Jvm.MethodName) ({ cls := "FollowedHours$Sheet", name := "layOut", desc := "(II)V" } : Jvm.MethodName)) ∈ fh_T := fh_Tin 680 (by decide +kernel) rfl
set_option maxRecDepth 100000 in
theorem q_681 : (Cond.code ({ cls := "FollowedHours$Sheet", name := "layOut", desc := "(II)V" } : Jvm.MethodName) prog_4_method_3_code (4 : Nat) (Option.none : Option Jvm.ClassFile.FieldType)) ∈ fh_T := fh_Tin 681 (by decide +kernel) rfl
set_option maxRecDepth 100000 in
theorem q_686 : (Cond.methodLink "FollowedHours" (240 : Nat) ({ cls := "FollowedHours$Sheet", name := "put", desc := "(II)V" } : Jvm.MethodName)) ∈ fh_T := fh_Tin 686 (by decide +kernel) rfl
set_option maxRecDepth 100000 in
theorem q_687 : (Cond.instanceMethod ({ cls := "FollowedHours$Sheet", name := "put", desc := "(II)V" } : Jvm.MethodName)) ∈ fh_T := fh_Tin 687 (by decide +kernel) rfl
set_option maxRecDepth 100000 in
theorem q_688 : (Cond.selects "FollowedHours$Sheet" ({ cls := "FollowedHours$Sheet", name := "put", desc := "(II)V" } : Jvm.MethodName) ({ cls := "FollowedHours$Sheet", name := "put", desc := "(II)V" } : Jvm.MethodName)) ∈ fh_T := fh_Tin 688 (by decide +kernel) rfl
set_option maxRecDepth 100000 in
theorem q_689 : (Cond.code ({ cls := "FollowedHours$Sheet", name := "put", desc := "(II)V" } : Jvm.MethodName) prog_4_method_4_code (3 : Nat) (Option.none : Option Jvm.ClassFile.FieldType)) ∈ fh_T := fh_Tin 689 (by decide +kernel) rfl
set_option maxRecDepth 100000 in
theorem q_694 : (Cond.methodLink "FollowedHours" (249 : Nat) ({ cls := "FollowedHours$Sheet", name := "hasPart", desc := "(II)Z" } : Jvm.MethodName)) ∈ fh_T := fh_Tin 694 (by decide +kernel) rfl
set_option maxRecDepth 100000 in
theorem q_695 : (Cond.instanceMethod ({ cls := "FollowedHours$Sheet", name := "hasPart", desc := "(II)Z" } : Jvm.MethodName)) ∈ fh_T := fh_Tin 695 (by decide +kernel) rfl
set_option maxRecDepth 100000 in
theorem q_696 : (Cond.selects "FollowedHours$Sheet" ({ cls := "FollowedHours$Sheet", name := "hasPart", desc := "(II)Z" } : Jvm.MethodName) ({ cls := "FollowedHours$Sheet", name := "hasPart", desc := "(II)Z" } : Jvm.MethodName)) ∈ fh_T := fh_Tin 696 (by decide +kernel) rfl
set_option maxRecDepth 100000 in
theorem q_697 : (Cond.code ({ cls := "FollowedHours$Sheet", name := "hasPart", desc := "(II)Z" } : Jvm.MethodName) prog_4_method_5_code (3 : Nat) (Option.some Jvm.ClassFile.FieldType.boolean)) ∈ fh_T := fh_Tin 697 (by decide +kernel) rfl
set_option maxRecDepth 100000 in
theorem q_698 : (Cond.methodLink "FollowedHours" (255 : Nat) ({ cls := "java/lang/System", name := "arraycopy", desc := "(Ljava/lang/Object;ILjava/lang/Object;II)V" } : Jvm.MethodName)) ∈ fh_T := fh_Tin 698 (by decide +kernel) rfl
set_option maxRecDepth 100000 in
theorem q_723 : (Cond.methodLink "FollowedHours" (266 : Nat) ({ cls := "FollowedHours$Garden", name := "heldCount", desc := "()I" } : Jvm.MethodName)) ∈ fh_T := fh_Tin 723 (by decide +kernel) rfl
set_option maxRecDepth 100000 in
theorem q_724 : (Cond.instanceMethod ({ cls := "FollowedHours$Garden", name := "heldCount", desc := "()I" } : Jvm.MethodName)) ∈ fh_T := fh_Tin 724 (by decide +kernel) rfl
set_option maxRecDepth 100000 in
theorem q_725 : (Cond.selects "FollowedHours$Garden" ({ cls := "FollowedHours$Garden", name := "heldCount", desc := "()I" } : Jvm.MethodName) ({ cls := "FollowedHours$Garden", name := "heldCount", desc := "()I" } : Jvm.MethodName)) ∈ fh_T := fh_Tin 725 (by decide +kernel) rfl
set_option maxRecDepth 100000 in
theorem q_726 : (Cond.code ({ cls := "FollowedHours$Garden", name := "heldCount", desc := "()I" } : Jvm.MethodName) prog_2_method_25_code (3 : Nat) (Option.some Jvm.ClassFile.FieldType.int)) ∈ fh_T := fh_Tin 726 (by decide +kernel) rfl
set_option maxRecDepth 100000 in
theorem q_746 : (Cond.fieldLink "FollowedHoursModel" (9 : Nat) "FollowedHoursModel" "now" "[I") ∈ fh_T := fh_Tin 746 (by decide +kernel) rfl
set_option maxRecDepth 100000 in
theorem q_747 : (Cond.fieldLink "FollowedHoursModel" (13 : Nat) "FollowedHoursModel" "kept" "[I") ∈ fh_T := fh_Tin 747 (by decide +kernel) rfl
set_option maxRecDepth 100000 in
theorem q_748 : (Cond.fieldLink "FollowedHoursModel" (16 : Nat) "FollowedHoursModel" "aside" "[I") ∈ fh_T := fh_Tin 748 (by decide +kernel) rfl
set_option maxRecDepth 100000 in
theorem q_749 : (Cond.fieldLink "FollowedHoursModel" (319 : Nat) "FollowedHoursModel" "isKept" "Z") ∈ fh_T := fh_Tin 749 (by decide +kernel) rfl
set_option maxRecDepth 100000 in
theorem q_750 : (Cond.fieldLink "FollowedHoursModel" (19 : Nat) "FollowedHoursModel" "found" "[I") ∈ fh_T := fh_Tin 750 (by decide +kernel) rfl
set_option maxRecDepth 100000 in
theorem q_751 : (Cond.fieldLink "FollowedHoursModel" (22 : Nat) "FollowedHoursModel" "goings" "[I") ∈ fh_T := fh_Tin 751 (by decide +kernel) rfl
set_option maxRecDepth 100000 in
theorem q_752 : (Cond.fieldLink "FollowedHoursModel" (25 : Nat) "FollowedHoursModel" "tape" "[I") ∈ fh_T := fh_Tin 752 (by decide +kernel) rfl
set_option maxRecDepth 100000 in
theorem q_753 : (Cond.fieldLink "FollowedHoursModel" (227 : Nat) "FollowedHoursModel" "taped" "I") ∈ fh_T := fh_Tin 753 (by decide +kernel) rfl
set_option maxRecDepth 100000 in
theorem q_754 : (Cond.fieldLink "FollowedHoursModel" (234 : Nat) "FollowedHoursModel" "begins" "I") ∈ fh_T := fh_Tin 754 (by decide +kernel) rfl
set_option maxRecDepth 100000 in
theorem q_755 : (Cond.fieldLink "FollowedHoursModel" (231 : Nat) "FollowedHoursModel" "ends" "I") ∈ fh_T := fh_Tin 755 (by decide +kernel) rfl
set_option maxRecDepth 100000 in
theorem q_756 : (Cond.fieldLink "FollowedHoursModel" (243 : Nat) "FollowedHoursModel" "sort" "I") ∈ fh_T := fh_Tin 756 (by decide +kernel) rfl
set_option maxRecDepth 100000 in
theorem q_757 : (Cond.fieldLink "FollowedHoursModel" (240 : Nat) "FollowedHoursModel" "value" "I") ∈ fh_T := fh_Tin 757 (by decide +kernel) rfl
set_option maxRecDepth 100000 in
theorem q_758 : (Cond.fieldLink "FollowedHoursModel" (253 : Nat) "FollowedHoursModel" "isWrong" "Z") ∈ fh_T := fh_Tin 758 (by decide +kernel) rfl
set_option maxRecDepth 100000 in
theorem q_759 : (Cond.fieldLink "FollowedHoursModel" (44 : Nat) "FollowedHoursModel" "kindNames" "[Ljava/lang/String;") ∈ fh_T := fh_Tin 759 (by decide +kernel) rfl
set_option maxRecDepth 100000 in
theorem q_760 : (Cond.fieldLink "FollowedHoursModel" (48 : Nat) "FollowedHoursModel" "items" "[I") ∈ fh_T := fh_Tin 760 (by decide +kernel) rfl
set_option maxRecDepth 100000 in
theorem q_761 : (Cond.fieldLink "FollowedHoursModel" (264 : Nat) "FollowedHoursModel" "itemMany" "I") ∈ fh_T := fh_Tin 761 (by decide +kernel) rfl
set_option maxRecDepth 100000 in
theorem q_762 : (Cond.fieldLink "FollowedHoursModel" (277 : Nat) "FollowedHoursModel" "dialThen" "I") ∈ fh_T := fh_Tin 762 (by decide +kernel) rfl
set_option maxRecDepth 100000 in
theorem q_763 : (Cond.fieldLink "FollowedHoursModel" (51 : Nat) "FollowedHoursModel" "widths" "[I") ∈ fh_T := fh_Tin 763 (by decide +kernel) rfl
set_option maxRecDepth 100000 in
theorem q_764 : (Cond.fieldLink "FollowedHoursModel" (54 : Nat) "FollowedHoursModel" "sizes" "[I") ∈ fh_T := fh_Tin 764 (by decide +kernel) rfl
set_option maxRecDepth 100000 in
theorem q_765 : (Cond.fieldLink "FollowedHoursModel" (57 : Nat) "FollowedHoursModel" "numbers" "[I") ∈ fh_T := fh_Tin 765 (by decide +kernel) rfl
set_option maxRecDepth 100000 in
theorem q_766 : (Cond.fieldLink "FollowedHoursModel" (60 : Nat) "FollowedHoursModel" "moved" "[I") ∈ fh_T := fh_Tin 766 (by decide +kernel) rfl
set_option maxRecDepth 100000 in
theorem q_814 : (Cond.methodLink "FollowedHoursModel" (84 : Nat) ({ cls := "FollowedHoursModel", name := "isKind", desc := "(I)Z" } : Jvm.MethodName)) ∈ fh_T := fh_Tin 814 (by decide +kernel) rfl
set_option maxRecDepth 100000 in
theorem q_815 : (Cond.static ({ cls := "FollowedHoursModel", name := "isKind", desc := "(I)Z" } : Jvm.MethodName)) ∈ fh_T := fh_Tin 815 (by decide +kernel) rfl
set_option maxRecDepth 100000 in
theorem q_816 : (Cond.code ({ cls := "FollowedHoursModel", name := "isKind", desc := "(I)Z" } : Jvm.MethodName) prog_7_method_11_code (1 : Nat) (Option.some Jvm.ClassFile.FieldType.boolean)) ∈ fh_T := fh_Tin 816 (by decide +kernel) rfl
set_option maxRecDepth 100000 in
theorem q_817 : (Cond.methodLink "FollowedHoursModel" (73 : Nat) ({ cls := "FollowedHoursModel", name := "within", desc := "(III)Z" } : Jvm.MethodName)) ∈ fh_T := fh_Tin 817 (by decide +kernel) rfl
set_option maxRecDepth 100000 in
theorem q_818 : (Cond.static ({ cls := "FollowedHoursModel", name := "within", desc := "(III)Z" } : Jvm.MethodName)) ∈ fh_T := fh_Tin 818 (by decide +kernel) rfl
set_option maxRecDepth 100000 in
theorem q_819 : (Cond.code ({ cls := "FollowedHoursModel", name := "within", desc := "(III)Z" } : Jvm.MethodName) prog_7_method_3_code (3 : Nat) (Option.some Jvm.ClassFile.FieldType.boolean)) ∈ fh_T := fh_Tin 819 (by decide +kernel) rfl
set_option maxRecDepth 100000 in
theorem q_820 : (Cond.constant "FollowedHoursModel" (63 : Nat) (-1000001 : Int32)) ∈ fh_T := fh_Tin 820 (by decide +kernel) rfl
set_option maxRecDepth 100000 in
theorem q_821 : (Cond.methodLink "FollowedHoursModel" (69 : Nat) ({ cls := "FollowedHoursModel", name := "finding", desc := "(I)I" } : Jvm.MethodName)) ∈ fh_T := fh_Tin 821 (by decide +kernel) rfl
set_option maxRecDepth 100000 in
theorem q_823 : (Cond.instanceMethod ({ cls := "FollowedHoursModel", name := "finding", desc := "(I)I" } : Jvm.MethodName)) ∈ fh_T := fh_Tin 823 (by decide +kernel) rfl
set_option maxRecDepth 100000 in
theorem q_824 : (Cond.code ({ cls := "FollowedHoursModel", name := "finding", desc := "(I)I" } : Jvm.MethodName) prog_7_method_2_code (2 : Nat) (Option.some Jvm.ClassFile.FieldType.int)) ∈ fh_T := fh_Tin 824 (by decide +kernel) rfl
set_option maxRecDepth 100000 in
theorem q_825 : (Cond.constant "FollowedHoursModel" (88 : Nat) (-1000002 : Int32)) ∈ fh_T := fh_Tin 825 (by decide +kernel) rfl
set_option maxRecDepth 100000 in
theorem q_826 : (Cond.methodLink "FollowedHoursModel" (89 : Nat) ({ cls := "FollowedHoursModel", name := "comes", desc := "(IIIIII)I" } : Jvm.MethodName)) ∈ fh_T := fh_Tin 826 (by decide +kernel) rfl
set_option maxRecDepth 100000 in
theorem q_828 : (Cond.instanceMethod ({ cls := "FollowedHoursModel", name := "comes", desc := "(IIIIII)I" } : Jvm.MethodName)) ∈ fh_T := fh_Tin 828 (by decide +kernel) rfl
set_option maxRecDepth 100000 in
theorem q_829 : (Cond.code ({ cls := "FollowedHoursModel", name := "comes", desc := "(IIIIII)I" } : Jvm.MethodName) prog_7_method_16_code (8 : Nat) (Option.some Jvm.ClassFile.FieldType.int)) ∈ fh_T := fh_Tin 829 (by decide +kernel) rfl
set_option maxRecDepth 100000 in
theorem q_830 : (Cond.methodLink "FollowedHoursModel" (77 : Nat) ({ cls := "FollowedHoursModel", name := "at", desc := "(II)I" } : Jvm.MethodName)) ∈ fh_T := fh_Tin 830 (by decide +kernel) rfl
set_option maxRecDepth 100000 in
theorem q_831 : (Cond.static ({ cls := "FollowedHoursModel", name := "at", desc := "(II)I" } : Jvm.MethodName)) ∈ fh_T := fh_Tin 831 (by decide +kernel) rfl
set_option maxRecDepth 100000 in
theorem q_832 : (Cond.code ({ cls := "FollowedHoursModel", name := "at", desc := "(II)I" } : Jvm.MethodName) prog_7_method_13_code (2 : Nat) (Option.some Jvm.ClassFile.FieldType.int)) ∈ fh_T := fh_Tin 832 (by decide +kernel) rfl
set_option maxRecDepth 100000 in
theorem q_837 : (Cond.methodLink "FollowedHoursModel" (112 : Nat) ({ cls := "FollowedHoursModel", name := "isDial", desc := "(I)Z" } : Jvm.MethodName)) ∈ fh_T := fh_Tin 837 (by decide +kernel) rfl
set_option maxRecDepth 100000 in
theorem q_839 : (Cond.instanceMethod ({ cls := "FollowedHoursModel", name := "isDial", desc := "(I)Z" } : Jvm.MethodName)) ∈ fh_T := fh_Tin 839 (by decide +kernel) rfl
set_option maxRecDepth 100000 in
theorem q_840 : (Cond.code ({ cls := "FollowedHoursModel", name := "isDial", desc := "(I)Z" } : Jvm.MethodName) prog_7_method_10_code (2 : Nat) (Option.some Jvm.ClassFile.FieldType.boolean)) ∈ fh_T := fh_Tin 840 (by decide +kernel) rfl
set_option maxRecDepth 100000 in
theorem q_841 : (Cond.methodLink "FollowedHoursModel" (115 : Nat) ({ cls := "FollowedHoursModel", name := "pace", desc := "(I)I" } : Jvm.MethodName)) ∈ fh_T := fh_Tin 841 (by decide +kernel) rfl
set_option maxRecDepth 100000 in
theorem q_843 : (Cond.instanceMethod ({ cls := "FollowedHoursModel", name := "pace", desc := "(I)I" } : Jvm.MethodName)) ∈ fh_T := fh_Tin 843 (by decide +kernel) rfl
set_option maxRecDepth 100000 in
theorem q_844 : (Cond.code ({ cls := "FollowedHoursModel", name := "pace", desc := "(I)I" } : Jvm.MethodName) prog_7_method_22_code (5 : Nat) (Option.some Jvm.ClassFile.FieldType.int)) ∈ fh_T := fh_Tin 844 (by decide +kernel) rfl
set_option maxRecDepth 100000 in
theorem q_845 : (Cond.methodLink "FollowedHoursModel" (101 : Nat) ({ cls := "FollowedHoursModel", name := "plainPace", desc := "(I)I" } : Jvm.MethodName)) ∈ fh_T := fh_Tin 845 (by decide +kernel) rfl
set_option maxRecDepth 100000 in
theorem q_847 : (Cond.instanceMethod ({ cls := "FollowedHoursModel", name := "plainPace", desc := "(I)I" } : Jvm.MethodName)) ∈ fh_T := fh_Tin 847 (by decide +kernel) rfl
set_option maxRecDepth 100000 in
theorem q_848 : (Cond.code ({ cls := "FollowedHoursModel", name := "plainPace", desc := "(I)I" } : Jvm.MethodName) prog_7_method_21_code (4 : Nat) (Option.some Jvm.ClassFile.FieldType.int)) ∈ fh_T := fh_Tin 848 (by decide +kernel) rfl
set_option maxRecDepth 100000 in
theorem q_849 : (Cond.methodLink "FollowedHoursModel" (81 : Nat) ({ cls := "FollowedHoursModel", name := "dialIs", desc := "(II)I" } : Jvm.MethodName)) ∈ fh_T := fh_Tin 849 (by decide +kernel) rfl
set_option maxRecDepth 100000 in
theorem q_851 : (Cond.instanceMethod ({ cls := "FollowedHoursModel", name := "dialIs", desc := "(II)I" } : Jvm.MethodName)) ∈ fh_T := fh_Tin 851 (by decide +kernel) rfl
set_option maxRecDepth 100000 in
theorem q_852 : (Cond.code ({ cls := "FollowedHoursModel", name := "dialIs", desc := "(II)I" } : Jvm.MethodName) prog_7_method_14_code (3 : Nat) (Option.some Jvm.ClassFile.FieldType.int)) ∈ fh_T := fh_Tin 852 (by decide +kernel) rfl
set_option maxRecDepth 100000 in
theorem q_853 : (Cond.methodLink "FollowedHoursModel" (96 : Nat) ({ cls := "FollowedHoursModel", name := "late", desc := "(I)I" } : Jvm.MethodName)) ∈ fh_T := fh_Tin 853 (by decide +kernel) rfl
set_option maxRecDepth 100000 in
theorem q_854 : (Cond.static ({ cls := "FollowedHoursModel", name := "late", desc := "(I)I" } : Jvm.MethodName)) ∈ fh_T := fh_Tin 854 (by decide +kernel) rfl
set_option maxRecDepth 100000 in
theorem q_855 : (Cond.code ({ cls := "FollowedHoursModel", name := "late", desc := "(I)I" } : Jvm.MethodName) prog_7_method_20_code (1 : Nat) (Option.some Jvm.ClassFile.FieldType.int)) ∈ fh_T := fh_Tin 855 (by decide +kernel) rfl
set_option maxRecDepth 100000 in
theorem q_856 : (Cond.methodLink "FollowedHoursModel" (98 : Nat) ({ cls := "FollowedHoursModel", name := "isStopped", desc := "(I)Z" } : Jvm.MethodName)) ∈ fh_T := fh_Tin 856 (by decide +kernel) rfl
set_option maxRecDepth 100000 in
theorem q_858 : (Cond.instanceMethod ({ cls := "FollowedHoursModel", name := "isStopped", desc := "(I)Z" } : Jvm.MethodName)) ∈ fh_T := fh_Tin 858 (by decide +kernel) rfl
set_option maxRecDepth 100000 in
theorem q_859 : (Cond.code ({ cls := "FollowedHoursModel", name := "isStopped", desc := "(I)Z" } : Jvm.MethodName) prog_7_method_15_code (2 : Nat) (Option.some Jvm.ClassFile.FieldType.boolean)) ∈ fh_T := fh_Tin 859 (by decide +kernel) rfl
set_option maxRecDepth 100000 in
theorem q_860 : (Cond.methodLink "FollowedHoursModel" (104 : Nat) ({ cls := "java/lang/Math", name := "max", desc := "(II)I" } : Jvm.MethodName)) ∈ fh_T := fh_Tin 860 (by decide +kernel) rfl
set_option maxRecDepth 100000 in
theorem q_861 : (Cond.methodLink "FollowedHoursModel" (109 : Nat) ({ cls := "java/lang/Math", name := "min", desc := "(II)I" } : Jvm.MethodName)) ∈ fh_T := fh_Tin 861 (by decide +kernel) rfl
set_option maxRecDepth 100000 in
theorem q_866 : (Cond.methodLink "FollowedHoursModel" (121 : Nat) ({ cls := "FollowedHoursModel", name := "mayBe", desc := "(II)Z" } : Jvm.MethodName)) ∈ fh_T := fh_Tin 866 (by decide +kernel) rfl
set_option maxRecDepth 100000 in
theorem q_868 : (Cond.instanceMethod ({ cls := "FollowedHoursModel", name := "mayBe", desc := "(II)Z" } : Jvm.MethodName)) ∈ fh_T := fh_Tin 868 (by decide +kernel) rfl
set_option maxRecDepth 100000 in
theorem q_869 : (Cond.code ({ cls := "FollowedHoursModel", name := "mayBe", desc := "(II)Z" } : Jvm.MethodName) prog_7_method_24_code (3 : Nat) (Option.some Jvm.ClassFile.FieldType.boolean)) ∈ fh_T := fh_Tin 869 (by decide +kernel) rfl
set_option maxRecDepth 100000 in
theorem q_870 : (Cond.methodLink "FollowedHoursModel" (118 : Nat) ({ cls := "FollowedHoursModel", name := "isHour", desc := "(I)Z" } : Jvm.MethodName)) ∈ fh_T := fh_Tin 870 (by decide +kernel) rfl
set_option maxRecDepth 100000 in
theorem q_871 : (Cond.static ({ cls := "FollowedHoursModel", name := "isHour", desc := "(I)Z" } : Jvm.MethodName)) ∈ fh_T := fh_Tin 871 (by decide +kernel) rfl
set_option maxRecDepth 100000 in
theorem q_872 : (Cond.code ({ cls := "FollowedHoursModel", name := "isHour", desc := "(I)Z" } : Jvm.MethodName) prog_7_method_12_code (1 : Nat) (Option.some Jvm.ClassFile.FieldType.boolean)) ∈ fh_T := fh_Tin 872 (by decide +kernel) rfl
set_option maxRecDepth 100000 in
theorem q_873 : (Cond.methodLink "FollowedHoursModel" (125 : Nat) ({ cls := "FollowedHoursModel", name := "become", desc := "(II)I" } : Jvm.MethodName)) ∈ fh_T := fh_Tin 873 (by decide +kernel) rfl
set_option maxRecDepth 100000 in
theorem q_875 : (Cond.instanceMethod ({ cls := "FollowedHoursModel", name := "become", desc := "(II)I" } : Jvm.MethodName)) ∈ fh_T := fh_Tin 875 (by decide +kernel) rfl
set_option maxRecDepth 100000 in
theorem q_876 : (Cond.code ({ cls := "FollowedHoursModel", name := "become", desc := "(II)I" } : Jvm.MethodName) prog_7_method_4_code (4 : Nat) (Option.some Jvm.ClassFile.FieldType.int)) ∈ fh_T := fh_Tin 876 (by decide +kernel) rfl
set_option maxRecDepth 100000 in
theorem q_881 : (Cond.methodLink "FollowedHoursModel" (128 : Nat) ({ cls := "FollowedHoursModel", name := "round", desc := "(I)I" } : Jvm.MethodName)) ∈ fh_T := fh_Tin 881 (by decide +kernel) rfl
set_option maxRecDepth 100000 in
theorem q_882 : (Cond.static ({ cls := "FollowedHoursModel", name := "round", desc := "(I)I" } : Jvm.MethodName)) ∈ fh_T := fh_Tin 882 (by decide +kernel) rfl
set_option maxRecDepth 100000 in
theorem q_883 : (Cond.code ({ cls := "FollowedHoursModel", name := "round", desc := "(I)I" } : Jvm.MethodName) prog_7_method_26_code (2 : Nat) (Option.some Jvm.ClassFile.FieldType.int)) ∈ fh_T := fh_Tin 883 (by decide +kernel) rfl
set_option maxRecDepth 100000 in
theorem q_888 : (Cond.methodLink "FollowedHoursModel" (131 : Nat) ({ cls := "FollowedHoursModel", name := "stops", desc := "(II)Z" } : Jvm.MethodName)) ∈ fh_T := fh_Tin 888 (by decide +kernel) rfl
set_option maxRecDepth 100000 in
theorem q_890 : (Cond.instanceMethod ({ cls := "FollowedHoursModel", name := "stops", desc := "(II)Z" } : Jvm.MethodName)) ∈ fh_T := fh_Tin 890 (by decide +kernel) rfl
set_option maxRecDepth 100000 in
theorem q_891 : (Cond.code ({ cls := "FollowedHoursModel", name := "stops", desc := "(II)Z" } : Jvm.MethodName) prog_7_method_28_code (4 : Nat) (Option.some Jvm.ClassFile.FieldType.boolean)) ∈ fh_T := fh_Tin 891 (by decide +kernel) rfl
set_option maxRecDepth 100000 in
theorem q_896 : (Cond.constant "FollowedHoursModel" (137 : Nat) (99999 : Int32)) ∈ fh_T := fh_Tin 896 (by decide +kernel) rfl
set_option maxRecDepth 100000 in
theorem q_897 : (Cond.constant "FollowedHoursModel" (138 : Nat) (-1000005 : Int32)) ∈ fh_T := fh_Tin 897 (by decide +kernel) rfl
set_option maxRecDepth 100000 in
theorem q_898 : (Cond.methodLink "FollowedHoursModel" (139 : Nat) ({ cls := "FollowedHoursModel", name := "ticks", desc := "(I)V" } : Jvm.MethodName)) ∈ fh_T := fh_Tin 898 (by decide +kernel) rfl
set_option maxRecDepth 100000 in
theorem q_900 : (Cond.instanceMethod ({ cls := "FollowedHoursModel", name := "ticks", desc := "(I)V" } : Jvm.MethodName)) ∈ fh_T := fh_Tin 900 (by decide +kernel) rfl
set_option maxRecDepth 100000 in
theorem q_901 : (Cond.code ({ cls := "FollowedHoursModel", name := "ticks", desc := "(I)V" } : Jvm.MethodName) prog_7_method_31_code (3 : Nat) (Option.none : Option Jvm.ClassFile.FieldType)) ∈ fh_T := fh_Tin 901 (by decide +kernel) rfl
set_option maxRecDepth 100000 in
theorem q_902 : (Cond.methodLink "FollowedHoursModel" (134 : Nat) ({ cls := "FollowedHoursModel", name := "tick", desc := "()V" } : Jvm.MethodName)) ∈ fh_T := fh_Tin 902 (by decide +kernel) rfl
set_option maxRecDepth 100000 in
theorem q_904 : (Cond.instanceMethod ({ cls := "FollowedHoursModel", name := "tick", desc := "()V" } : Jvm.MethodName)) ∈ fh_T := fh_Tin 904 (by decide +kernel) rfl
set_option maxRecDepth 100000 in
theorem q_905 : (Cond.code ({ cls := "FollowedHoursModel", name := "tick", desc := "()V" } : Jvm.MethodName) prog_7_method_30_code (2 : Nat) (Option.none : Option Jvm.ClassFile.FieldType)) ∈ fh_T := fh_Tin 905 (by decide +kernel) rfl
set_option maxRecDepth 100000 in
theorem q_910 : (Cond.methodLink "FollowedHoursModel" (149 : Nat) ({ cls := "FollowedHoursModel", name := "stoppedNow", desc := "()I" } : Jvm.MethodName)) ∈ fh_T := fh_Tin 910 (by decide +kernel) rfl
set_option maxRecDepth 100000 in
theorem q_912 : (Cond.instanceMethod ({ cls := "FollowedHoursModel", name := "stoppedNow", desc := "()I" } : Jvm.MethodName)) ∈ fh_T := fh_Tin 912 (by decide +kernel) rfl
set_option maxRecDepth 100000 in
theorem q_913 : (Cond.code ({ cls := "FollowedHoursModel", name := "stoppedNow", desc := "()I" } : Jvm.MethodName) prog_7_method_33_code (3 : Nat) (Option.some Jvm.ClassFile.FieldType.int)) ∈ fh_T := fh_Tin 913 (by decide +kernel) rfl
set_option maxRecDepth 100000 in
theorem q_914 : (Cond.methodLink "FollowedHoursModel" (153 : Nat) ({ cls := "FollowedHoursModel", name := "stillNow", desc := "()I" } : Jvm.MethodName)) ∈ fh_T := fh_Tin 914 (by decide +kernel) rfl
set_option maxRecDepth 100000 in
theorem q_916 : (Cond.instanceMethod ({ cls := "FollowedHoursModel", name := "stillNow", desc := "()I" } : Jvm.MethodName)) ∈ fh_T := fh_Tin 916 (by decide +kernel) rfl
set_option maxRecDepth 100000 in
theorem q_917 : (Cond.code ({ cls := "FollowedHoursModel", name := "stillNow", desc := "()I" } : Jvm.MethodName) prog_7_method_34_code (3 : Nat) (Option.some Jvm.ClassFile.FieldType.int)) ∈ fh_T := fh_Tin 917 (by decide +kernel) rfl
set_option maxRecDepth 100000 in
theorem q_918 : (Cond.methodLink "FollowedHoursModel" (156 : Nat) ({ cls := "FollowedHoursModel", name := "ownNow", desc := "()I" } : Jvm.MethodName)) ∈ fh_T := fh_Tin 918 (by decide +kernel) rfl
set_option maxRecDepth 100000 in
theorem q_920 : (Cond.instanceMethod ({ cls := "FollowedHoursModel", name := "ownNow", desc := "()I" } : Jvm.MethodName)) ∈ fh_T := fh_Tin 920 (by decide +kernel) rfl
set_option maxRecDepth 100000 in
theorem q_921 : (Cond.code ({ cls := "FollowedHoursModel", name := "ownNow", desc := "()I" } : Jvm.MethodName) prog_7_method_35_code (3 : Nat) (Option.some Jvm.ClassFile.FieldType.int)) ∈ fh_T := fh_Tin 921 (by decide +kernel) rfl
set_option maxRecDepth 100000 in
theorem q_922 : (Cond.methodLink "FollowedHoursModel" (159 : Nat) ({ cls := "FollowedHoursModel", name := "sumOf", desc := "(I)I" } : Jvm.MethodName)) ∈ fh_T := fh_Tin 922 (by decide +kernel) rfl
set_option maxRecDepth 100000 in
theorem q_924 : (Cond.instanceMethod ({ cls := "FollowedHoursModel", name := "sumOf", desc := "(I)I" } : Jvm.MethodName)) ∈ fh_T := fh_Tin 924 (by decide +kernel) rfl
set_option maxRecDepth 100000 in
theorem q_925 : (Cond.code ({ cls := "FollowedHoursModel", name := "sumOf", desc := "(I)I" } : Jvm.MethodName) prog_7_method_36_code (4 : Nat) (Option.some Jvm.ClassFile.FieldType.int)) ∈ fh_T := fh_Tin 925 (by decide +kernel) rfl
set_option maxRecDepth 100000 in
theorem q_926 : (Cond.methodLink "FollowedHoursModel" (162 : Nat) ({ cls := "FollowedHoursModel", name := "manyShow", desc := "(I)I" } : Jvm.MethodName)) ∈ fh_T := fh_Tin 926 (by decide +kernel) rfl
set_option maxRecDepth 100000 in
theorem q_928 : (Cond.instanceMethod ({ cls := "FollowedHoursModel", name := "manyShow", desc := "(I)I" } : Jvm.MethodName)) ∈ fh_T := fh_Tin 928 (by decide +kernel) rfl
set_option maxRecDepth 100000 in
theorem q_929 : (Cond.code ({ cls := "FollowedHoursModel", name := "manyShow", desc := "(I)I" } : Jvm.MethodName) prog_7_method_37_code (2 : Nat) (Option.some Jvm.ClassFile.FieldType.int)) ∈ fh_T := fh_Tin 929 (by decide +kernel) rfl
set_option maxRecDepth 100000 in
theorem q_930 : (Cond.methodLink "FollowedHoursModel" (143 : Nat) ({ cls := "FollowedHoursModel", name := "whoShow", desc := "(I)I" } : Jvm.MethodName)) ∈ fh_T := fh_Tin 930 (by decide +kernel) rfl
set_option maxRecDepth 100000 in
theorem q_932 : (Cond.instanceMethod ({ cls := "FollowedHoursModel", name := "whoShow", desc := "(I)I" } : Jvm.MethodName)) ∈ fh_T := fh_Tin 932 (by decide +kernel) rfl
set_option maxRecDepth 100000 in
theorem q_933 : (Cond.code ({ cls := "FollowedHoursModel", name := "whoShow", desc := "(I)I" } : Jvm.MethodName) prog_7_method_38_code (4 : Nat) (Option.some Jvm.ClassFile.FieldType.int)) ∈ fh_T := fh_Tin 933 (by decide +kernel) rfl
set_option maxRecDepth 100000 in
theorem q_934 : (Cond.methodLink "FollowedHoursModel" (146 : Nat) ({ cls := "FollowedHoursModel", name := "bits", desc := "(I)I" } : Jvm.MethodName)) ∈ fh_T := fh_Tin 934 (by decide +kernel) rfl
set_option maxRecDepth 100000 in
theorem q_935 : (Cond.static ({ cls := "FollowedHoursModel", name := "bits", desc := "(I)I" } : Jvm.MethodName)) ∈ fh_T := fh_Tin 935 (by decide +kernel) rfl
set_option maxRecDepth 100000 in
theorem q_936 : (Cond.code ({ cls := "FollowedHoursModel", name := "bits", desc := "(I)I" } : Jvm.MethodName) prog_7_method_9_code (3 : Nat) (Option.some Jvm.ClassFile.FieldType.int)) ∈ fh_T := fh_Tin 936 (by decide +kernel) rfl
set_option maxRecDepth 100000 in
theorem q_941 : (Cond.methodLink "FollowedHoursModel" (168 : Nat) ({ cls := "FollowedHoursModel", name := "wayOf", desc := "(I)I" } : Jvm.MethodName)) ∈ fh_T := fh_Tin 941 (by decide +kernel) rfl
set_option maxRecDepth 100000 in
theorem q_943 : (Cond.instanceMethod ({ cls := "FollowedHoursModel", name := "wayOf", desc := "(I)I" } : Jvm.MethodName)) ∈ fh_T := fh_Tin 943 (by decide +kernel) rfl
set_option maxRecDepth 100000 in
theorem q_944 : (Cond.code ({ cls := "FollowedHoursModel", name := "wayOf", desc := "(I)I" } : Jvm.MethodName) prog_7_method_40_code (4 : Nat) (Option.some Jvm.ClassFile.FieldType.int)) ∈ fh_T := fh_Tin 944 (by decide +kernel) rfl
set_option maxRecDepth 100000 in
theorem q_945 : (Cond.methodLink "FollowedHoursModel" (165 : Nat) ({ cls := "FollowedHoursModel", name := "has", desc := "(II)Z" } : Jvm.MethodName)) ∈ fh_T := fh_Tin 945 (by decide +kernel) rfl
set_option maxRecDepth 100000 in
theorem q_946 : (Cond.static ({ cls := "FollowedHoursModel", name := "has", desc := "(II)Z" } : Jvm.MethodName)) ∈ fh_T := fh_Tin 946 (by decide +kernel) rfl
set_option maxRecDepth 100000 in
theorem q_947 : (Cond.code ({ cls := "FollowedHoursModel", name := "has", desc := "(II)Z" } : Jvm.MethodName) prog_7_method_8_code (2 : Nat) (Option.some Jvm.ClassFile.FieldType.boolean)) ∈ fh_T := fh_Tin 947 (by decide +kernel) rfl
set_option maxRecDepth 100000 in
theorem q_952 : (Cond.methodLink "FollowedHoursModel" (171 : Nat) ({ cls := "FollowedHoursModel", name := "ringOf", desc := "(I)I" } : Jvm.MethodName)) ∈ fh_T := fh_Tin 952 (by decide +kernel) rfl
set_option maxRecDepth 100000 in
theorem q_954 : (Cond.instanceMethod ({ cls := "FollowedHoursModel", name := "ringOf", desc := "(I)I" } : Jvm.MethodName)) ∈ fh_T := fh_Tin 954 (by decide +kernel) rfl
set_option maxRecDepth 100000 in
theorem q_955 : (Cond.code ({ cls := "FollowedHoursModel", name := "ringOf", desc := "(I)I" } : Jvm.MethodName) prog_7_method_41_code (4 : Nat) (Option.some Jvm.ClassFile.FieldType.int)) ∈ fh_T := fh_Tin 955 (by decide +kernel) rfl
set_option maxRecDepth 100000 in
theorem q_960 : (Cond.methodLink "FollowedHoursModel" (174 : Nat) ({ cls := "FollowedHoursModel", name := "manyRings", desc := "()I" } : Jvm.MethodName)) ∈ fh_T := fh_Tin 960 (by decide +kernel) rfl
set_option maxRecDepth 100000 in
theorem q_962 : (Cond.instanceMethod ({ cls := "FollowedHoursModel", name := "manyRings", desc := "()I" } : Jvm.MethodName)) ∈ fh_T := fh_Tin 962 (by decide +kernel) rfl
set_option maxRecDepth 100000 in
theorem q_963 : (Cond.code ({ cls := "FollowedHoursModel", name := "manyRings", desc := "()I" } : Jvm.MethodName) prog_7_method_44_code (4 : Nat) (Option.some Jvm.ClassFile.FieldType.int)) ∈ fh_T := fh_Tin 963 (by decide +kernel) rfl
set_option maxRecDepth 100000 in
theorem q_972 : (Cond.methodLink "FollowedHoursModel" (177 : Nat) ({ cls := "FollowedHoursModel", name := "underOf", desc := "(I)I" } : Jvm.MethodName)) ∈ fh_T := fh_Tin 972 (by decide +kernel) rfl
set_option maxRecDepth 100000 in
theorem q_974 : (Cond.instanceMethod ({ cls := "FollowedHoursModel", name := "underOf", desc := "(I)I" } : Jvm.MethodName)) ∈ fh_T := fh_Tin 974 (by decide +kernel) rfl
set_option maxRecDepth 100000 in
theorem q_975 : (Cond.code ({ cls := "FollowedHoursModel", name := "underOf", desc := "(I)I" } : Jvm.MethodName) prog_7_method_47_code (4 : Nat) (Option.some Jvm.ClassFile.FieldType.int)) ∈ fh_T := fh_Tin 975 (by decide +kernel) rfl
set_option maxRecDepth 100000 in
theorem q_980 : (Cond.methodLink "FollowedHoursModel" (180 : Nat) ({ cls := "FollowedHoursModel", name := "orNone", desc := "(I)I" } : Jvm.MethodName)) ∈ fh_T := fh_Tin 980 (by decide +kernel) rfl
set_option maxRecDepth 100000 in
theorem q_982 : (Cond.instanceMethod ({ cls := "FollowedHoursModel", name := "orNone", desc := "(I)I" } : Jvm.MethodName)) ∈ fh_T := fh_Tin 982 (by decide +kernel) rfl
set_option maxRecDepth 100000 in
theorem q_983 : (Cond.code ({ cls := "FollowedHoursModel", name := "orNone", desc := "(I)I" } : Jvm.MethodName) prog_7_method_7_code (2 : Nat) (Option.some Jvm.ClassFile.FieldType.int)) ∈ fh_T := fh_Tin 983 (by decide +kernel) rfl
set_option maxRecDepth 100000 in
theorem q_984 : (Cond.constant "FollowedHoursModel" (68 : Nat) (-1000004 : Int32)) ∈ fh_T := fh_Tin 984 (by decide +kernel) rfl
set_option maxRecDepth 100000 in
theorem q_989 : (Cond.methodLink "FollowedHoursModel" (186 : Nat) ({ cls := "FollowedHoursModel", name := "behind", desc := "(III)I" } : Jvm.MethodName)) ∈ fh_T := fh_Tin 989 (by decide +kernel) rfl
set_option maxRecDepth 100000 in
theorem q_991 : (Cond.instanceMethod ({ cls := "FollowedHoursModel", name := "behind", desc := "(III)I" } : Jvm.MethodName)) ∈ fh_T := fh_Tin 991 (by decide +kernel) rfl
set_option maxRecDepth 100000 in
theorem q_992 : (Cond.code ({ cls := "FollowedHoursModel", name := "behind", desc := "(III)I" } : Jvm.MethodName) prog_7_method_50_code (4 : Nat) (Option.some Jvm.ClassFile.FieldType.int)) ∈ fh_T := fh_Tin 992 (by decide +kernel) rfl
set_option maxRecDepth 100000 in
theorem q_993 : (Cond.methodLink "FollowedHoursModel" (64 : Nat) ({ cls := "FollowedHoursModel", name := "copyRow", desc := "([I[I)V" } : Jvm.MethodName)) ∈ fh_T := fh_Tin 993 (by decide +kernel) rfl
set_option maxRecDepth 100000 in
theorem q_994 : (Cond.static ({ cls := "FollowedHoursModel", name := "copyRow", desc := "([I[I)V" } : Jvm.MethodName)) ∈ fh_T := fh_Tin 994 (by decide +kernel) rfl
set_option maxRecDepth 100000 in
theorem q_995 : (Cond.code ({ cls := "FollowedHoursModel", name := "copyRow", desc := "([I[I)V" } : Jvm.MethodName) prog_7_method_5_code (3 : Nat) (Option.none : Option Jvm.ClassFile.FieldType)) ∈ fh_T := fh_Tin 995 (by decide +kernel) rfl
set_option maxRecDepth 100000 in
theorem q_996 : (Cond.methodLink "FollowedHoursModel" (183 : Nat) ({ cls := "FollowedHoursModel", name := "putBack", desc := "(I)I" } : Jvm.MethodName)) ∈ fh_T := fh_Tin 996 (by decide +kernel) rfl
set_option maxRecDepth 100000 in
theorem q_998 : (Cond.instanceMethod ({ cls := "FollowedHoursModel", name := "putBack", desc := "(I)I" } : Jvm.MethodName)) ∈ fh_T := fh_Tin 998 (by decide +kernel) rfl
set_option maxRecDepth 100000 in
theorem q_999 : (Cond.code ({ cls := "FollowedHoursModel", name := "putBack", desc := "(I)I" } : Jvm.MethodName) prog_7_method_6_code (2 : Nat) (Option.some Jvm.ClassFile.FieldType.int)) ∈ fh_T := fh_Tin 999 (by decide +kernel) rfl
set_option maxRecDepth 100000 in
theorem q_1020 : (Cond.methodLink "FollowedHoursModel" (190 : Nat) ({ cls := "FollowedHoursModel", name := "isSettled", desc := "()Z" } : Jvm.MethodName)) ∈ fh_T := fh_Tin 1020 (by decide +kernel) rfl
set_option maxRecDepth 100000 in
theorem q_1022 : (Cond.instanceMethod ({ cls := "FollowedHoursModel", name := "isSettled", desc := "()Z" } : Jvm.MethodName)) ∈ fh_T := fh_Tin 1022 (by decide +kernel) rfl
set_option maxRecDepth 100000 in
theorem q_1023 : (Cond.code ({ cls := "FollowedHoursModel", name := "isSettled", desc := "()Z" } : Jvm.MethodName) prog_7_method_56_code (3 : Nat) (Option.some Jvm.ClassFile.FieldType.boolean)) ∈ fh_T := fh_Tin 1023 (by decide +kernel) rfl
set_option maxRecDepth 100000 in
theorem q_1028 : (Cond.methodLink "FollowedHoursModel" (197 : Nat) ({ cls := "FollowedHoursModel", name := "farIn", desc := "(II)I" } : Jvm.MethodName)) ∈ fh_T := fh_Tin 1028 (by decide +kernel) rfl
set_option maxRecDepth 100000 in
theorem q_1030 : (Cond.instanceMethod ({ cls := "FollowedHoursModel", name := "farIn", desc := "(II)I" } : Jvm.MethodName)) ∈ fh_T := fh_Tin 1030 (by decide +kernel) rfl
set_option maxRecDepth 100000 in
theorem q_1031 : (Cond.code ({ cls := "FollowedHoursModel", name := "farIn", desc := "(II)I" } : Jvm.MethodName) prog_7_method_58_code (5 : Nat) (Option.some Jvm.ClassFile.FieldType.int)) ∈ fh_T := fh_Tin 1031 (by decide +kernel) rfl
set_option maxRecDepth 100000 in
theorem q_1032 : (Cond.methodLink "FollowedHoursModel" (194 : Nat) ({ cls := "java/lang/Math", name := "abs", desc := "(I)I" } : Jvm.MethodName)) ∈ fh_T := fh_Tin 1032 (by decide +kernel) rfl
set_option maxRecDepth 100000 in
theorem q_1041 : (Cond.methodLink "FollowedHoursModel" (200 : Nat) ({ cls := "FollowedHoursModel", name := "mostShown", desc := "()I" } : Jvm.MethodName)) ∈ fh_T := fh_Tin 1041 (by decide +kernel) rfl
set_option maxRecDepth 100000 in
theorem q_1043 : (Cond.instanceMethod ({ cls := "FollowedHoursModel", name := "mostShown", desc := "()I" } : Jvm.MethodName)) ∈ fh_T := fh_Tin 1043 (by decide +kernel) rfl
set_option maxRecDepth 100000 in
theorem q_1044 : (Cond.code ({ cls := "FollowedHoursModel", name := "mostShown", desc := "()I" } : Jvm.MethodName) prog_7_method_61_code (5 : Nat) (Option.some Jvm.ClassFile.FieldType.int)) ∈ fh_T := fh_Tin 1044 (by decide +kernel) rfl
set_option maxRecDepth 100000 in
theorem q_1049 : (Cond.methodLink "FollowedHoursModel" (203 : Nat) ({ cls := "FollowedHoursModel", name := "rightBehind", desc := "(I)I" } : Jvm.MethodName)) ∈ fh_T := fh_Tin 1049 (by decide +kernel) rfl
set_option maxRecDepth 100000 in
theorem q_1051 : (Cond.instanceMethod ({ cls := "FollowedHoursModel", name := "rightBehind", desc := "(I)I" } : Jvm.MethodName)) ∈ fh_T := fh_Tin 1051 (by decide +kernel) rfl
set_option maxRecDepth 100000 in
theorem q_1052 : (Cond.code ({ cls := "FollowedHoursModel", name := "rightBehind", desc := "(I)I" } : Jvm.MethodName) prog_7_method_63_code (2 : Nat) (Option.some Jvm.ClassFile.FieldType.int)) ∈ fh_T := fh_Tin 1052 (by decide +kernel) rfl
set_option maxRecDepth 100000 in
theorem q_1061 : (Cond.methodLink "FollowedHoursModel" (213 : Nat) ({ cls := "FollowedHoursModel", name := "lacks", desc := "(I)I" } : Jvm.MethodName)) ∈ fh_T := fh_Tin 1061 (by decide +kernel) rfl
set_option maxRecDepth 100000 in
theorem q_1063 : (Cond.instanceMethod ({ cls := "FollowedHoursModel", name := "lacks", desc := "(I)I" } : Jvm.MethodName)) ∈ fh_T := fh_Tin 1063 (by decide +kernel) rfl
set_option maxRecDepth 100000 in
theorem q_1064 : (Cond.code ({ cls := "FollowedHoursModel", name := "lacks", desc := "(I)I" } : Jvm.MethodName) prog_7_method_66_code (2 : Nat) (Option.some Jvm.ClassFile.FieldType.int)) ∈ fh_T := fh_Tin 1064 (by decide +kernel) rfl
set_option maxRecDepth 100000 in
theorem q_1065 : (Cond.methodLink "FollowedHoursModel" (206 : Nat) ({ cls := "FollowedHoursModel", name := "isSheet", desc := "(I)Z" } : Jvm.MethodName)) ∈ fh_T := fh_Tin 1065 (by decide +kernel) rfl
set_option maxRecDepth 100000 in
theorem q_1066 : (Cond.static ({ cls := "FollowedHoursModel", name := "isSheet", desc := "(I)Z" } : Jvm.MethodName)) ∈ fh_T := fh_Tin 1066 (by decide +kernel) rfl
set_option maxRecDepth 100000 in
theorem q_1067 : (Cond.code ({ cls := "FollowedHoursModel", name := "isSheet", desc := "(I)Z" } : Jvm.MethodName) prog_7_method_97_code (1 : Nat) (Option.some Jvm.ClassFile.FieldType.boolean)) ∈ fh_T := fh_Tin 1067 (by decide +kernel) rfl
set_option maxRecDepth 100000 in
theorem q_1068 : (Cond.constant "FollowedHoursModel" (209 : Nat) (-1000006 : Int32)) ∈ fh_T := fh_Tin 1068 (by decide +kernel) rfl
set_option maxRecDepth 100000 in
theorem q_1069 : (Cond.methodLink "FollowedHoursModel" (216 : Nat) ({ cls := "FollowedHoursModel", name := "fitting", desc := "(IIII)I" } : Jvm.MethodName)) ∈ fh_T := fh_Tin 1069 (by decide +kernel) rfl
set_option maxRecDepth 100000 in
theorem q_1071 : (Cond.instanceMethod ({ cls := "FollowedHoursModel", name := "fitting", desc := "(IIII)I" } : Jvm.MethodName)) ∈ fh_T := fh_Tin 1071 (by decide +kernel) rfl
set_option maxRecDepth 100000 in
theorem q_1072 : (Cond.code ({ cls := "FollowedHoursModel", name := "fitting", desc := "(IIII)I" } : Jvm.MethodName) prog_7_method_68_code (8 : Nat) (Option.some Jvm.ClassFile.FieldType.int)) ∈ fh_T := fh_Tin 1072 (by decide +kernel) rfl
set_option maxRecDepth 100000 in
theorem q_1073 : (Cond.methodLink "FollowedHoursModel" (210 : Nat) ({ cls := "FollowedHoursModel", name := "isShownSo", desc := "(II)Z" } : Jvm.MethodName)) ∈ fh_T := fh_Tin 1073 (by decide +kernel) rfl
set_option maxRecDepth 100000 in
theorem q_1075 : (Cond.instanceMethod ({ cls := "FollowedHoursModel", name := "isShownSo", desc := "(II)Z" } : Jvm.MethodName)) ∈ fh_T := fh_Tin 1075 (by decide +kernel) rfl
set_option maxRecDepth 100000 in
theorem q_1076 : (Cond.code ({ cls := "FollowedHoursModel", name := "isShownSo", desc := "(II)Z" } : Jvm.MethodName) prog_7_method_67_code (6 : Nat) (Option.some Jvm.ClassFile.FieldType.boolean)) ∈ fh_T := fh_Tin 1076 (by decide +kernel) rfl
set_option maxRecDepth 100000 in
theorem q_1089 : (Cond.methodLink "FollowedHoursModel" (220 : Nat) ({ cls := "FollowedHoursModel", name := "stillWith", desc := "(II)I" } : Jvm.MethodName)) ∈ fh_T := fh_Tin 1089 (by decide +kernel) rfl
set_option maxRecDepth 100000 in
theorem q_1091 : (Cond.instanceMethod ({ cls := "FollowedHoursModel", name := "stillWith", desc := "(II)I" } : Jvm.MethodName)) ∈ fh_T := fh_Tin 1091 (by decide +kernel) rfl
set_option maxRecDepth 100000 in
theorem q_1092 : (Cond.code ({ cls := "FollowedHoursModel", name := "stillWith", desc := "(II)I" } : Jvm.MethodName) prog_7_method_72_code (5 : Nat) (Option.some Jvm.ClassFile.FieldType.int)) ∈ fh_T := fh_Tin 1092 (by decide +kernel) rfl
set_option maxRecDepth 100000 in
theorem q_1105 : (Cond.methodLink "FollowedHoursModel" (224 : Nat) ({ cls := "FollowedHoursModel", name := "drawn", desc := "()I" } : Jvm.MethodName)) ∈ fh_T := fh_Tin 1105 (by decide +kernel) rfl
set_option maxRecDepth 100000 in
theorem q_1107 : (Cond.instanceMethod ({ cls := "FollowedHoursModel", name := "drawn", desc := "()I" } : Jvm.MethodName)) ∈ fh_T := fh_Tin 1107 (by decide +kernel) rfl
set_option maxRecDepth 100000 in
theorem q_1108 : (Cond.code ({ cls := "FollowedHoursModel", name := "drawn", desc := "()I" } : Jvm.MethodName) prog_7_method_76_code (1 : Nat) (Option.some Jvm.ClassFile.FieldType.int)) ∈ fh_T := fh_Tin 1108 (by decide +kernel) rfl
set_option maxRecDepth 100000 in
theorem q_1109 : (Cond.constant "FollowedHoursModel" (223 : Nat) (1103515245 : Int32)) ∈ fh_T := fh_Tin 1109 (by decide +kernel) rfl
set_option maxRecDepth 100000 in
theorem q_1130 : (Cond.methodLink "FollowedHoursModel" (257 : Nat) ({ cls := "FollowedHoursModel", name := "next", desc := "()V" } : Jvm.MethodName)) ∈ fh_T := fh_Tin 1130 (by decide +kernel) rfl
set_option maxRecDepth 100000 in
theorem q_1132 : (Cond.instanceMethod ({ cls := "FollowedHoursModel", name := "next", desc := "()V" } : Jvm.MethodName)) ∈ fh_T := fh_Tin 1132 (by decide +kernel) rfl
set_option maxRecDepth 100000 in
theorem q_1133 : (Cond.code ({ cls := "FollowedHoursModel", name := "next", desc := "()V" } : Jvm.MethodName) prog_7_method_83_code (2 : Nat) (Option.none : Option Jvm.ClassFile.FieldType)) ∈ fh_T := fh_Tin 1133 (by decide +kernel) rfl
set_option maxRecDepth 100000 in
theorem q_1134 : (Cond.methodLink "FollowedHoursModel" (237 : Nat) ({ cls := "FollowedHoursModel", name := "byteAt", desc := "(I)I" } : Jvm.MethodName)) ∈ fh_T := fh_Tin 1134 (by decide +kernel) rfl
set_option maxRecDepth 100000 in
theorem q_1136 : (Cond.instanceMethod ({ cls := "FollowedHoursModel", name := "byteAt", desc := "(I)I" } : Jvm.MethodName)) ∈ fh_T := fh_Tin 1136 (by decide +kernel) rfl
set_option maxRecDepth 100000 in
theorem q_1137 : (Cond.code ({ cls := "FollowedHoursModel", name := "byteAt", desc := "(I)I" } : Jvm.MethodName) prog_7_method_82_code (2 : Nat) (Option.some Jvm.ClassFile.FieldType.int)) ∈ fh_T := fh_Tin 1137 (by decide +kernel) rfl
set_option maxRecDepth 100000 in
theorem q_1138 : (Cond.methodLink "FollowedHoursModel" (302 : Nat) ({ cls := "FollowedHoursModel", name := "readItem", desc := "()V" } : Jvm.MethodName)) ∈ fh_T := fh_Tin 1138 (by decide +kernel) rfl
set_option maxRecDepth 100000 in
theorem q_1140 : (Cond.instanceMethod ({ cls := "FollowedHoursModel", name := "readItem", desc := "()V" } : Jvm.MethodName)) ∈ fh_T := fh_Tin 1140 (by decide +kernel) rfl
set_option maxRecDepth 100000 in
theorem q_1141 : (Cond.code ({ cls := "FollowedHoursModel", name := "readItem", desc := "()V" } : Jvm.MethodName) prog_7_method_91_code (7 : Nat) (Option.none : Option Jvm.ClassFile.FieldType)) ∈ fh_T := fh_Tin 1141 (by decide +kernel) rfl
set_option maxRecDepth 100000 in
theorem q_1142 : (Cond.methodLink "FollowedHoursModel" (274 : Nat) ({ cls := "FollowedHoursModel", name := "kindTold", desc := "()I" } : Jvm.MethodName)) ∈ fh_T := fh_Tin 1142 (by decide +kernel) rfl
set_option maxRecDepth 100000 in
theorem q_1144 : (Cond.instanceMethod ({ cls := "FollowedHoursModel", name := "kindTold", desc := "()I" } : Jvm.MethodName)) ∈ fh_T := fh_Tin 1144 (by decide +kernel) rfl
set_option maxRecDepth 100000 in
theorem q_1145 : (Cond.code ({ cls := "FollowedHoursModel", name := "kindTold", desc := "()I" } : Jvm.MethodName) prog_7_method_88_code (3 : Nat) (Option.some Jvm.ClassFile.FieldType.int)) ∈ fh_T := fh_Tin 1145 (by decide +kernel) rfl
set_option maxRecDepth 100000 in
theorem q_1146 : (Cond.methodLink "FollowedHoursModel" (267 : Nat) ({ cls := "FollowedHoursModel", name := "isWord", desc := "(Ljava/lang/String;)Z" } : Jvm.MethodName)) ∈ fh_T := fh_Tin 1146 (by decide +kernel) rfl
set_option maxRecDepth 100000 in
theorem q_1148 : (Cond.instanceMethod ({ cls := "FollowedHoursModel", name := "isWord", desc := "(Ljava/lang/String;)Z" } : Jvm.MethodName)) ∈ fh_T := fh_Tin 1148 (by decide +kernel) rfl
set_option maxRecDepth 100000 in
theorem q_1149 : (Cond.code ({ cls := "FollowedHoursModel", name := "isWord", desc := "(Ljava/lang/String;)Z" } : Jvm.MethodName) prog_7_method_84_code (4 : Nat) (Option.some Jvm.ClassFile.FieldType.boolean)) ∈ fh_T := fh_Tin 1149 (by decide +kernel) rfl
set_option maxRecDepth 100000 in
theorem q_1150 : (Cond.methodLink "FollowedHoursModel" (246 : Nat) ({ cls := "java/lang/String", name := "length", desc := "()I" } : Jvm.MethodName)) ∈ fh_T := fh_Tin 1150 (by decide +kernel) rfl
set_option maxRecDepth 100000 in
theorem q_1151 : (Cond.methodLink "FollowedHoursModel" (249 : Nat) ({ cls := "java/lang/String", name := "charAt", desc := "(I)C" } : Jvm.MethodName)) ∈ fh_T := fh_Tin 1151 (by decide +kernel) rfl
set_option maxRecDepth 100000 in
theorem q_1152 : (Cond.methodLink "FollowedHoursModel" (260 : Nat) ({ cls := "FollowedHoursModel", name := "must", desc := "(Z)V" } : Jvm.MethodName)) ∈ fh_T := fh_Tin 1152 (by decide +kernel) rfl
set_option maxRecDepth 100000 in
theorem q_1154 : (Cond.instanceMethod ({ cls := "FollowedHoursModel", name := "must", desc := "(Z)V" } : Jvm.MethodName)) ∈ fh_T := fh_Tin 1154 (by decide +kernel) rfl
set_option maxRecDepth 100000 in
theorem q_1155 : (Cond.code ({ cls := "FollowedHoursModel", name := "must", desc := "(Z)V" } : Jvm.MethodName) prog_7_method_85_code (2 : Nat) (Option.none : Option Jvm.ClassFile.FieldType)) ∈ fh_T := fh_Tin 1155 (by decide +kernel) rfl
set_option maxRecDepth 100000 in
theorem q_1157 : (Cond.methodLink "FollowedHoursModel" (282 : Nat) ({ cls := "FollowedHoursModel", name := "isNext", desc := "(Ljava/lang/String;)Z" } : Jvm.MethodName)) ∈ fh_T := fh_Tin 1157 (by decide +kernel) rfl
set_option maxRecDepth 100000 in
theorem q_1159 : (Cond.instanceMethod ({ cls := "FollowedHoursModel", name := "isNext", desc := "(Ljava/lang/String;)Z" } : Jvm.MethodName)) ∈ fh_T := fh_Tin 1159 (by decide +kernel) rfl
set_option maxRecDepth 100000 in
theorem q_1160 : (Cond.code ({ cls := "FollowedHoursModel", name := "isNext", desc := "(Ljava/lang/String;)Z" } : Jvm.MethodName) prog_7_method_89_code (3 : Nat) (Option.some Jvm.ClassFile.FieldType.boolean)) ∈ fh_T := fh_Tin 1160 (by decide +kernel) rfl
set_option maxRecDepth 100000 in
theorem q_1161 : (Cond.methodLink "FollowedHoursModel" (271 : Nat) ({ cls := "FollowedHoursModel", name := "number", desc := "(II)I" } : Jvm.MethodName)) ∈ fh_T := fh_Tin 1161 (by decide +kernel) rfl
set_option maxRecDepth 100000 in
theorem q_1163 : (Cond.instanceMethod ({ cls := "FollowedHoursModel", name := "number", desc := "(II)I" } : Jvm.MethodName)) ∈ fh_T := fh_Tin 1163 (by decide +kernel) rfl
set_option maxRecDepth 100000 in
theorem q_1164 : (Cond.code ({ cls := "FollowedHoursModel", name := "number", desc := "(II)I" } : Jvm.MethodName) prog_7_method_86_code (4 : Nat) (Option.some Jvm.ClassFile.FieldType.int)) ∈ fh_T := fh_Tin 1164 (by decide +kernel) rfl
set_option maxRecDepth 100000 in
theorem q_1167 : (Cond.methodLink "FollowedHoursModel" (289 : Nat) ({ cls := "FollowedHoursModel", name := "goesTold", desc := "()I" } : Jvm.MethodName)) ∈ fh_T := fh_Tin 1167 (by decide +kernel) rfl
set_option maxRecDepth 100000 in
theorem q_1169 : (Cond.instanceMethod ({ cls := "FollowedHoursModel", name := "goesTold", desc := "()I" } : Jvm.MethodName)) ∈ fh_T := fh_Tin 1169 (by decide +kernel) rfl
set_option maxRecDepth 100000 in
theorem q_1170 : (Cond.code ({ cls := "FollowedHoursModel", name := "goesTold", desc := "()I" } : Jvm.MethodName) prog_7_method_90_code (3 : Nat) (Option.some Jvm.ClassFile.FieldType.int)) ∈ fh_T := fh_Tin 1170 (by decide +kernel) rfl
set_option maxRecDepth 100000 in
theorem q_1173 : (Cond.methodLink "FollowedHoursModel" (296 : Nat) ({ cls := "FollowedHoursModel", name := "item", desc := "(IIIIII)V" } : Jvm.MethodName)) ∈ fh_T := fh_Tin 1173 (by decide +kernel) rfl
set_option maxRecDepth 100000 in
theorem q_1175 : (Cond.instanceMethod ({ cls := "FollowedHoursModel", name := "item", desc := "(IIIIII)V" } : Jvm.MethodName)) ∈ fh_T := fh_Tin 1175 (by decide +kernel) rfl
set_option maxRecDepth 100000 in
theorem q_1176 : (Cond.code ({ cls := "FollowedHoursModel", name := "item", desc := "(IIIIII)V" } : Jvm.MethodName) prog_7_method_87_code (8 : Nat) (Option.none : Option Jvm.ClassFile.FieldType)) ∈ fh_T := fh_Tin 1176 (by decide +kernel) rfl
set_option maxRecDepth 100000 in
theorem q_1178 : (Cond.methodLink "FollowedHoursModel" (305 : Nat) ({ cls := "FollowedHoursModel", name := "isToldSo", desc := "(I)I" } : Jvm.MethodName)) ∈ fh_T := fh_Tin 1178 (by decide +kernel) rfl
set_option maxRecDepth 100000 in
theorem q_1180 : (Cond.instanceMethod ({ cls := "FollowedHoursModel", name := "isToldSo", desc := "(I)I" } : Jvm.MethodName)) ∈ fh_T := fh_Tin 1180 (by decide +kernel) rfl
set_option maxRecDepth 100000 in
theorem q_1181 : (Cond.code ({ cls := "FollowedHoursModel", name := "isToldSo", desc := "(I)I" } : Jvm.MethodName) prog_7_method_92_code (4 : Nat) (Option.some Jvm.ClassFile.FieldType.int)) ∈ fh_T := fh_Tin 1181 (by decide +kernel) rfl
set_option maxRecDepth 100000 in
theorem q_1186 : (Cond.methodLink "FollowedHoursModel" (308 : Nat) ({ cls := "FollowedHoursModel", name := "isSpot", desc := "(I)Z" } : Jvm.MethodName)) ∈ fh_T := fh_Tin 1186 (by decide +kernel) rfl
set_option maxRecDepth 100000 in
theorem q_1187 : (Cond.static ({ cls := "FollowedHoursModel", name := "isSpot", desc := "(I)Z" } : Jvm.MethodName)) ∈ fh_T := fh_Tin 1187 (by decide +kernel) rfl
set_option maxRecDepth 100000 in
theorem q_1188 : (Cond.code ({ cls := "FollowedHoursModel", name := "isSpot", desc := "(I)Z" } : Jvm.MethodName) prog_7_method_94_code (1 : Nat) (Option.some Jvm.ClassFile.FieldType.boolean)) ∈ fh_T := fh_Tin 1188 (by decide +kernel) rfl
set_option maxRecDepth 100000 in
theorem q_1193 : (Cond.methodLink "FollowedHoursModel" (311 : Nat) ({ cls := "FollowedHoursModel", name := "isUnder", desc := "(II)Z" } : Jvm.MethodName)) ∈ fh_T := fh_Tin 1193 (by decide +kernel) rfl
set_option maxRecDepth 100000 in
theorem q_1194 : (Cond.static ({ cls := "FollowedHoursModel", name := "isUnder", desc := "(II)Z" } : Jvm.MethodName)) ∈ fh_T := fh_Tin 1194 (by decide +kernel) rfl
set_option maxRecDepth 100000 in
theorem q_1195 : (Cond.code ({ cls := "FollowedHoursModel", name := "isUnder", desc := "(II)Z" } : Jvm.MethodName) prog_7_method_19_code (3 : Nat) (Option.some Jvm.ClassFile.FieldType.boolean)) ∈ fh_T := fh_Tin 1195 (by decide +kernel) rfl
set_option maxRecDepth 100000 in
theorem q_1196 : (Cond.methodLink "FollowedHoursModel" (93 : Nat) ({ cls := "FollowedHoursModel", name := "above", desc := "(I)I" } : Jvm.MethodName)) ∈ fh_T := fh_Tin 1196 (by decide +kernel) rfl
set_option maxRecDepth 100000 in
theorem q_1197 : (Cond.static ({ cls := "FollowedHoursModel", name := "above", desc := "(I)I" } : Jvm.MethodName)) ∈ fh_T := fh_Tin 1197 (by decide +kernel) rfl
set_option maxRecDepth 100000 in
theorem q_1198 : (Cond.code ({ cls := "FollowedHoursModel", name := "above", desc := "(I)I" } : Jvm.MethodName) prog_7_method_18_code (1 : Nat) (Option.some Jvm.ClassFile.FieldType.int)) ∈ fh_T := fh_Tin 1198 (by decide +kernel) rfl
set_option maxRecDepth 100000 in
theorem q_1199 : (Cond.constant "FollowedHoursModel" (314 : Nat) (-1000003 : Int32)) ∈ fh_T := fh_Tin 1199 (by decide +kernel) rfl
set_option maxRecDepth 100000 in
theorem q_1204 : (Cond.constant "FollowedHoursModel" (315 : Nat) (-1000007 : Int32)) ∈ fh_T := fh_Tin 1204 (by decide +kernel) rfl
set_option maxRecDepth 100000 in
theorem q_1209 : (Cond.methodLink "FollowedHoursModel" (316 : Nat) ({ cls := "FollowedHoursModel", name := "cutTo", desc := "(II)I" } : Jvm.MethodName)) ∈ fh_T := fh_Tin 1209 (by decide +kernel) rfl
set_option maxRecDepth 100000 in
theorem q_1210 : (Cond.static ({ cls := "FollowedHoursModel", name := "cutTo", desc := "(II)I" } : Jvm.MethodName)) ∈ fh_T := fh_Tin 1210 (by decide +kernel) rfl
set_option maxRecDepth 100000 in
theorem q_1211 : (Cond.code ({ cls := "FollowedHoursModel", name := "cutTo", desc := "(II)I" } : Jvm.MethodName) prog_7_method_98_code (2 : Nat) (Option.some Jvm.ClassFile.FieldType.int)) ∈ fh_T := fh_Tin 1211 (by decide +kernel) rfl
set_option maxRecDepth 100000 in
theorem q_1244 : (Cond.fieldLink "java/lang/String" (9 : Nat) "java/lang/String" "value" "[B") ∈ fh_T := fh_Tin 1244 (by decide +kernel) rfl
set_option maxRecDepth 100000 in
theorem q_1245 : (Cond.fieldLink "java/lang/String" (15 : Nat) "java/lang/String" "coder" "B") ∈ fh_T := fh_Tin 1245 (by decide +kernel) rfl
end
section
def f_X0_become (k1 : Nat) (k2 : Nat) (σ3 : fh_S) : Option (Unit × fh_S) := fh_ob 0 k1 ((fh_gi σ3 0 k2 9).bind fun v4 => (fh_pf σ3 0 k1 9 v4).bind fun σ5 => (fh_gi σ5 0 k2 10).bind fun v6 => (fh_pf σ5 0 k1 10 v6).bind fun σ7 => (fh_gi σ7 0 k2 11).bind fun v8 => (fh_pf σ7 0 k1 11 v8).bind fun σ9 => (fh_gr 0 k2 0).bind fun k10 => (fh_gr 0 k1 0).bind fun k11 => (fh_cp σ9 k10 ((0 : Int32)) k11 ((0 : Int32)) ((10 : Int32))).bind fun σ12 => (fh_gr 0 k2 1).bind fun k13 => (fh_gr 0 k1 1).bind fun k14 => (fh_cp σ12 k13 ((0 : Int32)) k14 ((0 : Int32)) ((10 : Int32))).bind fun σ15 => (fh_gr 0 k2 2).bind fun k16 => (fh_gr 0 k1 2).bind fun k17 => (fh_cp σ15 k16 ((0 : Int32)) k17 ((0 : Int32)) ((10 : Int32))).bind fun σ18 => (fh_gr 0 k2 3).bind fun k19 => (fh_gr 0 k1 3).bind fun k20 => (fh_cp σ18 k19 ((0 : Int32)) k20 ((0 : Int32)) ((10 : Int32))).bind fun σ21 => (fh_gr 0 k2 4).bind fun k22 => (fh_gr 0 k1 4).bind fun k23 => (fh_cp σ21 k22 ((0 : Int32)) k23 ((0 : Int32)) ((10 : Int32))).bind fun σ24 => (fh_gr 0 k2 5).bind fun k25 => (fh_gr 0 k1 5).bind fun k26 => (fh_cp σ24 k25 ((0 : Int32)) k26 ((0 : Int32)) ((10 : Int32))).bind fun σ27 => (fh_gr 0 k2 6).bind fun k28 => (fh_gr 0 k1 6).bind fun k29 => (fh_cp σ27 k28 ((0 : Int32)) k29 ((0 : Int32)) ((10 : Int32))).bind fun σ30 => some ((), σ30))
abbrev rm_X0_become : Room := { frames := 1, cells := 0, slots := 0, locals := 60 }
theorem pd_X0_become : yX0_become.cls ≠ "java/lang/invoke/MethodHandle" ∧ yX0_become.cls ≠ "java/lang/invoke/VarHandle" ∧ (parseMethodDescriptor yX0_become.desc).map (fun d => d.parameters.length) = some 1 := by decide +kernel
theorem dX0_become_0 : decode cX0_become 0 = .ok (.aload_n 0, 1) := by decide +kernel
theorem dX0_become_1 : decode cX0_become 1 = .ok (.aload_n 1, 1) := by decide +kernel
theorem dX0_become_2 : decode cX0_become 2 = .ok (.getfield 39, 3) := by decide +kernel
theorem dX0_become_5 : decode cX0_become 5 = .ok (.putfield 39, 3) := by decide +kernel
theorem dX0_become_8 : decode cX0_become 8 = .ok (.aload_n 0, 1) := by decide +kernel
theorem dX0_become_9 : decode cX0_become 9 = .ok (.aload_n 1, 1) := by decide +kernel
theorem dX0_become_10 : decode cX0_become 10 = .ok (.getfield 43, 3) := by decide +kernel
theorem dX0_become_13 : decode cX0_become 13 = .ok (.putfield 43, 3) := by decide +kernel
theorem dX0_become_16 : decode cX0_become 16 = .ok (.aload_n 0, 1) := by decide +kernel
theorem dX0_become_17 : decode cX0_become 17 = .ok (.aload_n 1, 1) := by decide +kernel
theorem dX0_become_18 : decode cX0_become 18 = .ok (.getfield 46, 3) := by decide +kernel
theorem dX0_become_21 : decode cX0_become 21 = .ok (.putfield 46, 3) := by decide +kernel
theorem dX0_become_24 : decode cX0_become 24 = .ok (.aload_n 1, 1) := by decide +kernel
theorem dX0_become_25 : decode cX0_become 25 = .ok (.getfield 9, 3) := by decide +kernel
theorem dX0_become_28 : decode cX0_become 28 = .ok (.iconst 0, 1) := by decide +kernel
theorem dX0_become_29 : decode cX0_become 29 = .ok (.aload_n 0, 1) := by decide +kernel
theorem dX0_become_30 : decode cX0_become 30 = .ok (.getfield 9, 3) := by decide +kernel
theorem dX0_become_33 : decode cX0_become 33 = .ok (.iconst 0, 1) := by decide +kernel
theorem dX0_become_34 : decode cX0_become 34 = .ok (.bipush 10, 2) := by decide +kernel
theorem dX0_become_36 : decode cX0_become 36 = .ok (.invokestatic 49, 3) := by decide +kernel
theorem dX0_become_39 : decode cX0_become 39 = .ok (.aload_n 1, 1) := by decide +kernel
theorem dX0_become_40 : decode cX0_become 40 = .ok (.getfield 15, 3) := by decide +kernel
theorem dX0_become_43 : decode cX0_become 43 = .ok (.iconst 0, 1) := by decide +kernel
theorem dX0_become_44 : decode cX0_become 44 = .ok (.aload_n 0, 1) := by decide +kernel
theorem dX0_become_45 : decode cX0_become 45 = .ok (.getfield 15, 3) := by decide +kernel
theorem dX0_become_48 : decode cX0_become 48 = .ok (.iconst 0, 1) := by decide +kernel
theorem dX0_become_49 : decode cX0_become 49 = .ok (.bipush 10, 2) := by decide +kernel
theorem dX0_become_51 : decode cX0_become 51 = .ok (.invokestatic 49, 3) := by decide +kernel
theorem dX0_become_54 : decode cX0_become 54 = .ok (.aload_n 1, 1) := by decide +kernel
theorem dX0_become_55 : decode cX0_become 55 = .ok (.getfield 18, 3) := by decide +kernel
theorem dX0_become_58 : decode cX0_become 58 = .ok (.iconst 0, 1) := by decide +kernel
theorem dX0_become_59 : decode cX0_become 59 = .ok (.aload_n 0, 1) := by decide +kernel
theorem dX0_become_60 : decode cX0_become 60 = .ok (.getfield 18, 3) := by decide +kernel
theorem dX0_become_63 : decode cX0_become 63 = .ok (.iconst 0, 1) := by decide +kernel
theorem dX0_become_64 : decode cX0_become 64 = .ok (.bipush 10, 2) := by decide +kernel
theorem dX0_become_66 : decode cX0_become 66 = .ok (.invokestatic 49, 3) := by decide +kernel
theorem dX0_become_69 : decode cX0_become 69 = .ok (.aload_n 1, 1) := by decide +kernel
theorem dX0_become_70 : decode cX0_become 70 = .ok (.getfield 21, 3) := by decide +kernel
theorem dX0_become_73 : decode cX0_become 73 = .ok (.iconst 0, 1) := by decide +kernel
theorem dX0_become_74 : decode cX0_become 74 = .ok (.aload_n 0, 1) := by decide +kernel
theorem dX0_become_75 : decode cX0_become 75 = .ok (.getfield 21, 3) := by decide +kernel
theorem dX0_become_78 : decode cX0_become 78 = .ok (.iconst 0, 1) := by decide +kernel
theorem dX0_become_79 : decode cX0_become 79 = .ok (.bipush 10, 2) := by decide +kernel
theorem dX0_become_81 : decode cX0_become 81 = .ok (.invokestatic 49, 3) := by decide +kernel
theorem dX0_become_84 : decode cX0_become 84 = .ok (.aload_n 1, 1) := by decide +kernel
theorem dX0_become_85 : decode cX0_become 85 = .ok (.getfield 24, 3) := by decide +kernel
theorem dX0_become_88 : decode cX0_become 88 = .ok (.iconst 0, 1) := by decide +kernel
theorem dX0_become_89 : decode cX0_become 89 = .ok (.aload_n 0, 1) := by decide +kernel
theorem dX0_become_90 : decode cX0_become 90 = .ok (.getfield 24, 3) := by decide +kernel
theorem dX0_become_93 : decode cX0_become 93 = .ok (.iconst 0, 1) := by decide +kernel
theorem dX0_become_94 : decode cX0_become 94 = .ok (.bipush 10, 2) := by decide +kernel
theorem dX0_become_96 : decode cX0_become 96 = .ok (.invokestatic 49, 3) := by decide +kernel
theorem dX0_become_99 : decode cX0_become 99 = .ok (.aload_n 1, 1) := by decide +kernel
theorem dX0_become_100 : decode cX0_become 100 = .ok (.getfield 27, 3) := by decide +kernel
theorem dX0_become_103 : decode cX0_become 103 = .ok (.iconst 0, 1) := by decide +kernel
theorem dX0_become_104 : decode cX0_become 104 = .ok (.aload_n 0, 1) := by decide +kernel
theorem dX0_become_105 : decode cX0_become 105 = .ok (.getfield 27, 3) := by decide +kernel
theorem dX0_become_108 : decode cX0_become 108 = .ok (.iconst 0, 1) := by decide +kernel
theorem dX0_become_109 : decode cX0_become 109 = .ok (.bipush 10, 2) := by decide +kernel
theorem dX0_become_111 : decode cX0_become 111 = .ok (.invokestatic 49, 3) := by decide +kernel
theorem dX0_become_114 : decode cX0_become 114 = .ok (.aload_n 1, 1) := by decide +kernel
theorem dX0_become_115 : decode cX0_become 115 = .ok (.getfield 30, 3) := by decide +kernel
theorem dX0_become_118 : decode cX0_become 118 = .ok (.iconst 0, 1) := by decide +kernel
theorem dX0_become_119 : decode cX0_become 119 = .ok (.aload_n 0, 1) := by decide +kernel
theorem dX0_become_120 : decode cX0_become 120 = .ok (.getfield 30, 3) := by decide +kernel
theorem dX0_become_123 : decode cX0_become 123 = .ok (.iconst 0, 1) := by decide +kernel
theorem dX0_become_124 : decode cX0_become 124 = .ok (.bipush 10, 2) := by decide +kernel
theorem dX0_become_126 : decode cX0_become 126 = .ok (.invokestatic 49, 3) := by decide +kernel
theorem dX0_become_129 : decode cX0_become 129 = .ok (.return_, 1) := by decide +kernel
set_option maxHeartbeats 4000000 in
set_option maxRecDepth 100000 in
theorem g_X0_become {E : fh_E} {M : fh_M} (C : fh_Cx E M cX0_become 2 RX0 (none) rm_X0_become) (Hr : fh_Rt E M) (k1 : Nat) (k2 : Nat) (σ3 : fh_S) : fh_Go E M 2 fh_vU 0 [(0, .ref (fh_ad E k1)), (1, .ref (fh_ad E k2))] [] σ3 (f_X0_become k1 k2 σ3) := by
  have hok := fh_cok C
  refine go_ob ?_
  refine go_aload_n C 0 rfl rfl dX0_become_0 ?_
  refine go_aload_n C 1 rfl rfl dX0_become_1 ?_
  refine go_gi (ci := 0) (j := 9) C fh_in0 rfl (by decide) rfl q_46 dX0_become_2 (fun v4 => ?_)
  refine go_pf (ci := 0) (j := 9) C tyX0 tyX0_ok nmX0 fh_in0 rfl (by decide) rfl q_46 rfl rfl dX0_become_5 (fun σ5 => ?_)
  refine go_aload_n C 0 rfl rfl dX0_become_8 ?_
  refine go_aload_n C 1 rfl rfl dX0_become_9 ?_
  refine go_gi (ci := 0) (j := 10) C fh_in0 rfl (by decide) rfl q_49 dX0_become_10 (fun v6 => ?_)
  refine go_pf (ci := 0) (j := 10) C tyX0 tyX0_ok nmX0 fh_in0 rfl (by decide) rfl q_49 rfl rfl dX0_become_13 (fun σ7 => ?_)
  refine go_aload_n C 0 rfl rfl dX0_become_16 ?_
  refine go_aload_n C 1 rfl rfl dX0_become_17 ?_
  refine go_gi (ci := 0) (j := 11) C fh_in0 rfl (by decide) rfl q_51 dX0_become_18 (fun v8 => ?_)
  refine go_pf (ci := 0) (j := 11) C tyX0 tyX0_ok nmX0 fh_in0 rfl (by decide) rfl q_51 rfl rfl dX0_become_21 (fun σ9 => ?_)
  refine go_aload_n C 1 rfl rfl dX0_become_24 ?_
  refine go_gr (ci := 0) (j := 0) C fh_in0 rfl (by decide) rfl q_28 dX0_become_25 (fun k10 => ?_)
  refine go_iconst C (0 : Int32) dX0_become_28 rfl ?_
  refine go_aload_n C 0 rfl rfl dX0_become_29 ?_
  refine go_gr (ci := 0) (j := 0) C fh_in0 rfl (by decide) rfl q_28 dX0_become_30 (fun k11 => ?_)
  refine go_iconst C (0 : Int32) dX0_become_33 rfl ?_
  refine go_bipush C (10 : Int32) dX0_become_34 rfl ?_
  refine go_cp C ⟨q_382, q_384, q_383, q_9⟩ ⟨Nat.le_of_ble_eq_true rfl, Nat.le_of_ble_eq_true rfl⟩ dX0_become_36 (fun σ12 => ?_)
  refine go_aload_n C 1 rfl rfl dX0_become_39 ?_
  refine go_gr (ci := 0) (j := 1) C fh_in0 rfl (by decide) rfl q_30 dX0_become_40 (fun k13 => ?_)
  refine go_iconst C (0 : Int32) dX0_become_43 rfl ?_
  refine go_aload_n C 0 rfl rfl dX0_become_44 ?_
  refine go_gr (ci := 0) (j := 1) C fh_in0 rfl (by decide) rfl q_30 dX0_become_45 (fun k14 => ?_)
  refine go_iconst C (0 : Int32) dX0_become_48 rfl ?_
  refine go_bipush C (10 : Int32) dX0_become_49 rfl ?_
  refine go_cp C ⟨q_382, q_384, q_383, q_9⟩ ⟨Nat.le_of_ble_eq_true rfl, Nat.le_of_ble_eq_true rfl⟩ dX0_become_51 (fun σ15 => ?_)
  refine go_aload_n C 1 rfl rfl dX0_become_54 ?_
  refine go_gr (ci := 0) (j := 2) C fh_in0 rfl (by decide) rfl q_33 dX0_become_55 (fun k16 => ?_)
  refine go_iconst C (0 : Int32) dX0_become_58 rfl ?_
  refine go_aload_n C 0 rfl rfl dX0_become_59 ?_
  refine go_gr (ci := 0) (j := 2) C fh_in0 rfl (by decide) rfl q_33 dX0_become_60 (fun k17 => ?_)
  refine go_iconst C (0 : Int32) dX0_become_63 rfl ?_
  refine go_bipush C (10 : Int32) dX0_become_64 rfl ?_
  refine go_cp C ⟨q_382, q_384, q_383, q_9⟩ ⟨Nat.le_of_ble_eq_true rfl, Nat.le_of_ble_eq_true rfl⟩ dX0_become_66 (fun σ18 => ?_)
  refine go_aload_n C 1 rfl rfl dX0_become_69 ?_
  refine go_gr (ci := 0) (j := 3) C fh_in0 rfl (by decide) rfl q_36 dX0_become_70 (fun k19 => ?_)
  refine go_iconst C (0 : Int32) dX0_become_73 rfl ?_
  refine go_aload_n C 0 rfl rfl dX0_become_74 ?_
  refine go_gr (ci := 0) (j := 3) C fh_in0 rfl (by decide) rfl q_36 dX0_become_75 (fun k20 => ?_)
  refine go_iconst C (0 : Int32) dX0_become_78 rfl ?_
  refine go_bipush C (10 : Int32) dX0_become_79 rfl ?_
  refine go_cp C ⟨q_382, q_384, q_383, q_9⟩ ⟨Nat.le_of_ble_eq_true rfl, Nat.le_of_ble_eq_true rfl⟩ dX0_become_81 (fun σ21 => ?_)
  refine go_aload_n C 1 rfl rfl dX0_become_84 ?_
  refine go_gr (ci := 0) (j := 4) C fh_in0 rfl (by decide) rfl q_39 dX0_become_85 (fun k22 => ?_)
  refine go_iconst C (0 : Int32) dX0_become_88 rfl ?_
  refine go_aload_n C 0 rfl rfl dX0_become_89 ?_
  refine go_gr (ci := 0) (j := 4) C fh_in0 rfl (by decide) rfl q_39 dX0_become_90 (fun k23 => ?_)
  refine go_iconst C (0 : Int32) dX0_become_93 rfl ?_
  refine go_bipush C (10 : Int32) dX0_become_94 rfl ?_
  refine go_cp C ⟨q_382, q_384, q_383, q_9⟩ ⟨Nat.le_of_ble_eq_true rfl, Nat.le_of_ble_eq_true rfl⟩ dX0_become_96 (fun σ24 => ?_)
  refine go_aload_n C 1 rfl rfl dX0_become_99 ?_
  refine go_gr (ci := 0) (j := 5) C fh_in0 rfl (by decide) rfl q_40 dX0_become_100 (fun k25 => ?_)
  refine go_iconst C (0 : Int32) dX0_become_103 rfl ?_
  refine go_aload_n C 0 rfl rfl dX0_become_104 ?_
  refine go_gr (ci := 0) (j := 5) C fh_in0 rfl (by decide) rfl q_40 dX0_become_105 (fun k26 => ?_)
  refine go_iconst C (0 : Int32) dX0_become_108 rfl ?_
  refine go_bipush C (10 : Int32) dX0_become_109 rfl ?_
  refine go_cp C ⟨q_382, q_384, q_383, q_9⟩ ⟨Nat.le_of_ble_eq_true rfl, Nat.le_of_ble_eq_true rfl⟩ dX0_become_111 (fun σ27 => ?_)
  refine go_aload_n C 1 rfl rfl dX0_become_114 ?_
  refine go_gr (ci := 0) (j := 6) C fh_in0 rfl (by decide) rfl q_42 dX0_become_115 (fun k28 => ?_)
  refine go_iconst C (0 : Int32) dX0_become_118 rfl ?_
  refine go_aload_n C 0 rfl rfl dX0_become_119 ?_
  refine go_gr (ci := 0) (j := 6) C fh_in0 rfl (by decide) rfl q_42 dX0_become_120 (fun k29 => ?_)
  refine go_iconst C (0 : Int32) dX0_become_123 rfl ?_
  refine go_bipush C (10 : Int32) dX0_become_124 rfl ?_
  refine go_cp C ⟨q_382, q_384, q_383, q_9⟩ ⟨Nat.le_of_ble_eq_true rfl, Nat.le_of_ble_eq_true rfl⟩ dX0_become_126 (fun σ30 => ?_)
  exact go_vret C Hr rfl dX0_become_129
theorem m_X0_become (E : fh_E) (l : Launch) (hok : fh_ok E) (k1 : Nat) (k2 : Nat) (σ3 : fh_S) : fh_Met E l yX0_become cX0_become 2 (none) rm_X0_become fh_vU [.ref (fh_ad E k1), .ref (fh_ad E k2)] σ3 (f_X0_become k1 k2 σ3) := fh_met hok (by decide +kernel) (Nat.le_of_ble_eq_true rfl) (fun M _ C Hr => g_X0_become C Hr k1 k2 σ3)
def f_X0_has (k1 : Nat) (a2 : Int32) (σ3 : fh_S) : Option (Int32 × fh_S) := fh_ob 0 k1 (if a2 < 0 then fh_rz ((0 : Int32)) σ3 else (fh_gi σ3 0 k1 9).bind fun v4 => if v4 ≤ a2 then fh_rz ((0 : Int32)) σ3 else fh_rz ((1 : Int32)) σ3)
abbrev rm_X0_has : Room := { frames := 0, cells := 0, slots := 0, locals := 0 }
theorem pd_X0_has : yX0_has.cls ≠ "java/lang/invoke/MethodHandle" ∧ yX0_has.cls ≠ "java/lang/invoke/VarHandle" ∧ (parseMethodDescriptor yX0_has.desc).map (fun d => d.parameters.length) = some 1 := by decide +kernel
theorem dX0_has_0 : decode cX0_has 0 = .ok (.iload_n 1, 1) := by decide +kernel
theorem dX0_has_1 : decode cX0_has 1 = .ok (.ifCond .lt 15, 3) := by decide +kernel
theorem dX0_has_4 : decode cX0_has 4 = .ok (.iload_n 1, 1) := by decide +kernel
theorem dX0_has_5 : decode cX0_has 5 = .ok (.aload_n 0, 1) := by decide +kernel
theorem dX0_has_6 : decode cX0_has 6 = .ok (.getfield 39, 3) := by decide +kernel
theorem dX0_has_9 : decode cX0_has 9 = .ok (.if_icmp .ge 7, 3) := by decide +kernel
theorem dX0_has_12 : decode cX0_has 12 = .ok (.iconst 1, 1) := by decide +kernel
theorem dX0_has_13 : decode cX0_has 13 = .ok (.goto 4, 3) := by decide +kernel
theorem dX0_has_16 : decode cX0_has 16 = .ok (.iconst 0, 1) := by decide +kernel
theorem dX0_has_17 : decode cX0_has 17 = .ok (.ireturn, 1) := by decide +kernel
set_option maxHeartbeats 4000000 in
set_option maxRecDepth 100000 in
theorem g_X0_has {E : fh_E} {M : fh_M} (C : fh_Cx E M cX0_has 2 RX0 ((some FieldType.boolean)) rm_X0_has) (Hr : fh_Rt E M) (k1 : Nat) (a2 : Int32) (σ3 : fh_S) : fh_Go E M 2 fh_vI 0 [(0, .ref (fh_ad E k1)), (1, .int a2)] [] σ3 (f_X0_has k1 a2 σ3) := by
  have hok := fh_cok C
  refine go_ob ?_
  refine go_iload_n C 1 rfl rfl dX0_has_0 ?_
  refine go_if_lt (tgt := 16) C dX0_has_1 rfl (fun _ => ?_) (fun _ => ?_)
  · refine go_iconst C (0 : Int32) dX0_has_16 rfl ?_
    exact go_zret C Hr dX0_has_17
  · refine go_iload_n C 1 rfl rfl dX0_has_4 ?_
    refine go_aload_n C 0 rfl rfl dX0_has_5 ?_
    refine go_gi (ci := 0) (j := 9) C fh_in0 rfl (by decide) rfl q_46 dX0_has_6 (fun v4 => ?_)
    refine go_icmp_ge (tgt := 16) C dX0_has_9 rfl (fun _ => ?_) (fun _ => ?_)
    · refine go_iconst C (0 : Int32) dX0_has_16 rfl ?_
      exact go_zret C Hr dX0_has_17
    · refine go_iconst C (1 : Int32) dX0_has_12 rfl ?_
      refine go_goto C 17 dX0_has_13 rfl ?_
      exact go_zret C Hr dX0_has_17
theorem m_X0_has (E : fh_E) (l : Launch) (hok : fh_ok E) (k1 : Nat) (a2 : Int32) (σ3 : fh_S) : fh_Met E l yX0_has cX0_has 2 ((some FieldType.boolean)) rm_X0_has fh_vI [.ref (fh_ad E k1), .int a2] σ3 (f_X0_has k1 a2 σ3) := fh_met hok (by decide +kernel) (Nat.le_of_ble_eq_true rfl) (fun M _ C Hr => g_X0_has C Hr k1 a2 σ3)
def f_X0_isFull (k1 : Nat) (σ2 : fh_S) : Option (Int32 × fh_S) := fh_ob 0 k1 ((fh_gi σ2 0 k1 9).bind fun v3 => if v3 < ((10 : Int32)) then fh_rz ((0 : Int32)) σ2 else fh_rz ((1 : Int32)) σ2)
abbrev rm_X0_isFull : Room := { frames := 0, cells := 0, slots := 0, locals := 0 }
theorem pd_X0_isFull : yX0_isFull.cls ≠ "java/lang/invoke/MethodHandle" ∧ yX0_isFull.cls ≠ "java/lang/invoke/VarHandle" ∧ (parseMethodDescriptor yX0_isFull.desc).map (fun d => d.parameters.length) = some 0 := by decide +kernel
theorem dX0_isFull_0 : decode cX0_isFull 0 = .ok (.aload_n 0, 1) := by decide +kernel
theorem dX0_isFull_1 : decode cX0_isFull 1 = .ok (.getfield 39, 3) := by decide +kernel
theorem dX0_isFull_4 : decode cX0_isFull 4 = .ok (.bipush 10, 2) := by decide +kernel
theorem dX0_isFull_6 : decode cX0_isFull 6 = .ok (.if_icmp .lt 7, 3) := by decide +kernel
theorem dX0_isFull_9 : decode cX0_isFull 9 = .ok (.iconst 1, 1) := by decide +kernel
theorem dX0_isFull_10 : decode cX0_isFull 10 = .ok (.goto 4, 3) := by decide +kernel
theorem dX0_isFull_13 : decode cX0_isFull 13 = .ok (.iconst 0, 1) := by decide +kernel
theorem dX0_isFull_14 : decode cX0_isFull 14 = .ok (.ireturn, 1) := by decide +kernel
set_option maxHeartbeats 4000000 in
set_option maxRecDepth 100000 in
theorem g_X0_isFull {E : fh_E} {M : fh_M} (C : fh_Cx E M cX0_isFull 1 RX0 ((some FieldType.boolean)) rm_X0_isFull) (Hr : fh_Rt E M) (k1 : Nat) (σ2 : fh_S) : fh_Go E M 1 fh_vI 0 [(0, .ref (fh_ad E k1))] [] σ2 (f_X0_isFull k1 σ2) := by
  have hok := fh_cok C
  refine go_ob ?_
  refine go_aload_n C 0 rfl rfl dX0_isFull_0 ?_
  refine go_gi (ci := 0) (j := 9) C fh_in0 rfl (by decide) rfl q_46 dX0_isFull_1 (fun v3 => ?_)
  refine go_bipush C (10 : Int32) dX0_isFull_4 rfl ?_
  refine go_icmp_lt (tgt := 13) C dX0_isFull_6 rfl (fun _ => ?_) (fun _ => ?_)
  · refine go_iconst C (0 : Int32) dX0_isFull_13 rfl ?_
    exact go_zret C Hr dX0_isFull_14
  · refine go_iconst C (1 : Int32) dX0_isFull_9 rfl ?_
    refine go_goto C 14 dX0_isFull_10 rfl ?_
    exact go_zret C Hr dX0_isFull_14
theorem m_X0_isFull (E : fh_E) (l : Launch) (hok : fh_ok E) (k1 : Nat) (σ2 : fh_S) : fh_Met E l yX0_isFull cX0_isFull 1 ((some FieldType.boolean)) rm_X0_isFull fh_vI [.ref (fh_ad E k1)] σ2 (f_X0_isFull k1 σ2) := fh_met hok (by decide +kernel) (Nat.le_of_ble_eq_true rfl) (fun M _ C Hr => g_X0_isFull C Hr k1 σ2)
def f_J9_min_7cf53 (a1 : Int32) (a2 : Int32) (σ3 : fh_S) : Option (Int32 × fh_S) := if a2 < a1 then some (a2, σ3) else some (a1, σ3)
abbrev rm_J9_min_7cf53 : Room := { frames := 0, cells := 0, slots := 0, locals := 0 }
theorem pd_J9_min_7cf53 : yJ9_min_7cf53.cls ≠ "java/lang/invoke/MethodHandle" ∧ yJ9_min_7cf53.cls ≠ "java/lang/invoke/VarHandle" ∧ (parseMethodDescriptor yJ9_min_7cf53.desc).map (fun d => d.parameters.length) = some 2 := by decide +kernel
theorem dJ9_min_7cf53_0 : decode cJ9_min_7cf53 0 = .ok (.iload_n 0, 1) := by decide +kernel
theorem dJ9_min_7cf53_1 : decode cJ9_min_7cf53 1 = .ok (.iload_n 1, 1) := by decide +kernel
theorem dJ9_min_7cf53_2 : decode cJ9_min_7cf53 2 = .ok (.if_icmp .gt 7, 3) := by decide +kernel
theorem dJ9_min_7cf53_5 : decode cJ9_min_7cf53 5 = .ok (.iload_n 0, 1) := by decide +kernel
theorem dJ9_min_7cf53_6 : decode cJ9_min_7cf53 6 = .ok (.goto 4, 3) := by decide +kernel
theorem dJ9_min_7cf53_9 : decode cJ9_min_7cf53 9 = .ok (.iload_n 1, 1) := by decide +kernel
theorem dJ9_min_7cf53_10 : decode cJ9_min_7cf53 10 = .ok (.ireturn, 1) := by decide +kernel
set_option maxHeartbeats 4000000 in
set_option maxRecDepth 100000 in
theorem g_J9_min_7cf53 {E : fh_E} {M : fh_M} (C : fh_Cx E M cJ9_min_7cf53 2 RJ9 ((some FieldType.int)) rm_J9_min_7cf53) (Hr : fh_Rt E M) (a1 : Int32) (a2 : Int32) (σ3 : fh_S) : fh_Go E M 2 fh_vI 0 [(0, .int a1), (1, .int a2)] [] σ3 (f_J9_min_7cf53 a1 a2 σ3) := by
  have hok := fh_cok C
  refine go_iload_n C 0 rfl rfl dJ9_min_7cf53_0 ?_
  refine go_iload_n C 1 rfl rfl dJ9_min_7cf53_1 ?_
  refine go_icmp_gt (tgt := 9) C dJ9_min_7cf53_2 rfl (fun _ => ?_) (fun _ => ?_)
  · refine go_iload_n C 1 rfl rfl dJ9_min_7cf53_9 ?_
    exact go_iret C Hr rfl dJ9_min_7cf53_10
  · refine go_iload_n C 0 rfl rfl dJ9_min_7cf53_5 ?_
    refine go_goto C 10 dJ9_min_7cf53_6 rfl ?_
    exact go_iret C Hr rfl dJ9_min_7cf53_10
theorem m_J9_min_7cf53 (E : fh_E) (l : Launch) (hok : fh_ok E) (a1 : Int32) (a2 : Int32) (σ3 : fh_S) : fh_Met E l yJ9_min_7cf53 cJ9_min_7cf53 2 ((some FieldType.int)) rm_J9_min_7cf53 fh_vI [.int a1, .int a2] σ3 (f_J9_min_7cf53 a1 a2 σ3) := fh_met hok (by decide +kernel) (Nat.le_of_ble_eq_true rfl) (fun M _ C Hr => g_J9_min_7cf53 C Hr a1 a2 σ3)
def f_X0_add (k1 : Nat) (a2 : Int32) (σ3 : fh_S) : Option (Int32 × fh_S) := fh_ob 0 k1 ((fh_gi σ3 0 k1 9).bind fun v4 => fh_cb (f_J9_min_7cf53 v4 ((9 : Int32)) σ3) fun r6 σ5 => (fh_gr 0 k1 0).bind fun k7 => (fh_st σ5 k7 r6 a2).bind fun σ8 => (fh_gr 0 k1 1).bind fun k9 => (fh_st σ8 k9 r6 ((0 : Int32))).bind fun σ10 => (fh_gr 0 k1 2).bind fun k11 => (fh_st σ10 k11 r6 r6).bind fun σ12 => (fh_gr 0 k1 3).bind fun k13 => (fh_st σ12 k13 r6 ((1 : Int32))).bind fun σ14 => (fh_gr 0 k1 4).bind fun k15 => (fh_st σ14 k15 r6 ((0 : Int32))).bind fun σ16 => (fh_gr 0 k1 5).bind fun k17 => (fh_st σ16 k17 r6 ((0 : Int32))).bind fun σ18 => (fh_pf σ18 0 k1 9 (r6 + ((1 : Int32)))).bind fun σ19 => some (r6, σ19))
abbrev rm_X0_add : Room := { frames := 1, cells := 0, slots := 0, locals := 21 }
theorem pd_X0_add : yX0_add.cls ≠ "java/lang/invoke/MethodHandle" ∧ yX0_add.cls ≠ "java/lang/invoke/VarHandle" ∧ (parseMethodDescriptor yX0_add.desc).map (fun d => d.parameters.length) = some 1 := by decide +kernel
theorem dX0_add_0 : decode cX0_add 0 = .ok (.aload_n 0, 1) := by decide +kernel
theorem dX0_add_1 : decode cX0_add 1 = .ok (.getfield 39, 3) := by decide +kernel
theorem dX0_add_4 : decode cX0_add 4 = .ok (.bipush 9, 2) := by decide +kernel
theorem dX0_add_6 : decode cX0_add 6 = .ok (.invokestatic 55, 3) := by decide +kernel
theorem dX0_add_9 : decode cX0_add 9 = .ok (.istore_n 2, 1) := by decide +kernel
theorem dX0_add_10 : decode cX0_add 10 = .ok (.aload_n 0, 1) := by decide +kernel
theorem dX0_add_11 : decode cX0_add 11 = .ok (.getfield 9, 3) := by decide +kernel
theorem dX0_add_14 : decode cX0_add 14 = .ok (.iload_n 2, 1) := by decide +kernel
theorem dX0_add_15 : decode cX0_add 15 = .ok (.iload_n 1, 1) := by decide +kernel
theorem dX0_add_16 : decode cX0_add 16 = .ok (.iastore, 1) := by decide +kernel
theorem dX0_add_17 : decode cX0_add 17 = .ok (.aload_n 0, 1) := by decide +kernel
theorem dX0_add_18 : decode cX0_add 18 = .ok (.getfield 15, 3) := by decide +kernel
theorem dX0_add_21 : decode cX0_add 21 = .ok (.iload_n 2, 1) := by decide +kernel
theorem dX0_add_22 : decode cX0_add 22 = .ok (.iconst 0, 1) := by decide +kernel
theorem dX0_add_23 : decode cX0_add 23 = .ok (.iastore, 1) := by decide +kernel
theorem dX0_add_24 : decode cX0_add 24 = .ok (.aload_n 0, 1) := by decide +kernel
theorem dX0_add_25 : decode cX0_add 25 = .ok (.getfield 18, 3) := by decide +kernel
theorem dX0_add_28 : decode cX0_add 28 = .ok (.iload_n 2, 1) := by decide +kernel
theorem dX0_add_29 : decode cX0_add 29 = .ok (.iload_n 2, 1) := by decide +kernel
theorem dX0_add_30 : decode cX0_add 30 = .ok (.iastore, 1) := by decide +kernel
theorem dX0_add_31 : decode cX0_add 31 = .ok (.aload_n 0, 1) := by decide +kernel
theorem dX0_add_32 : decode cX0_add 32 = .ok (.getfield 21, 3) := by decide +kernel
theorem dX0_add_35 : decode cX0_add 35 = .ok (.iload_n 2, 1) := by decide +kernel
theorem dX0_add_36 : decode cX0_add 36 = .ok (.iconst 1, 1) := by decide +kernel
theorem dX0_add_37 : decode cX0_add 37 = .ok (.iastore, 1) := by decide +kernel
theorem dX0_add_38 : decode cX0_add 38 = .ok (.aload_n 0, 1) := by decide +kernel
theorem dX0_add_39 : decode cX0_add 39 = .ok (.getfield 24, 3) := by decide +kernel
theorem dX0_add_42 : decode cX0_add 42 = .ok (.iload_n 2, 1) := by decide +kernel
theorem dX0_add_43 : decode cX0_add 43 = .ok (.iconst 0, 1) := by decide +kernel
theorem dX0_add_44 : decode cX0_add 44 = .ok (.iastore, 1) := by decide +kernel
theorem dX0_add_45 : decode cX0_add 45 = .ok (.aload_n 0, 1) := by decide +kernel
theorem dX0_add_46 : decode cX0_add 46 = .ok (.getfield 27, 3) := by decide +kernel
theorem dX0_add_49 : decode cX0_add 49 = .ok (.iload_n 2, 1) := by decide +kernel
theorem dX0_add_50 : decode cX0_add 50 = .ok (.iconst 0, 1) := by decide +kernel
theorem dX0_add_51 : decode cX0_add 51 = .ok (.iastore, 1) := by decide +kernel
theorem dX0_add_52 : decode cX0_add 52 = .ok (.aload_n 0, 1) := by decide +kernel
theorem dX0_add_53 : decode cX0_add 53 = .ok (.iload_n 2, 1) := by decide +kernel
theorem dX0_add_54 : decode cX0_add 54 = .ok (.iconst 1, 1) := by decide +kernel
theorem dX0_add_55 : decode cX0_add 55 = .ok (.iadd, 1) := by decide +kernel
theorem dX0_add_56 : decode cX0_add 56 = .ok (.putfield 39, 3) := by decide +kernel
theorem dX0_add_59 : decode cX0_add 59 = .ok (.iload_n 2, 1) := by decide +kernel
theorem dX0_add_60 : decode cX0_add 60 = .ok (.ireturn, 1) := by decide +kernel
set_option maxHeartbeats 4000000 in
set_option maxRecDepth 100000 in
theorem g_X0_add {E : fh_E} {M : fh_M} (C : fh_Cx E M cX0_add 3 RX0 ((some FieldType.int)) rm_X0_add) (Hr : fh_Rt E M) (k1 : Nat) (a2 : Int32) (σ3 : fh_S) : fh_Go E M 3 fh_vI 0 [(0, .ref (fh_ad E k1)), (1, .int a2)] [] σ3 (f_X0_add k1 a2 σ3) := by
  have hok := fh_cok C
  refine go_ob ?_
  refine go_aload_n C 0 rfl rfl dX0_add_0 ?_
  refine go_gi (ci := 0) (j := 9) C fh_in0 rfl (by decide) rfl q_46 dX0_add_1 (fun v4 => ?_)
  refine go_bipush C (9 : Int32) dX0_add_4 rfl ?_
  refine go_callSI C (st := []) [.int v4, .int ((9 : Int32))] (m_J9_min_7cf53 E _ hok v4 ((9 : Int32)) σ3) rfl ⟨q_189, q_190, q_7, q_191⟩ pd_J9_min_7cf53 rfl ⟨⟨Nat.le_of_ble_eq_true rfl, Nat.le_of_ble_eq_true rfl⟩, rfl, rfl⟩ (Nat.le_of_ble_eq_true rfl) dX0_add_6 (fun r6 σ5 => ?_)
  refine go_istore_n C [(2, .int r6), (0, .ref (fh_ad E k1)), (1, .int a2)] rfl rfl (by decide) dX0_add_9 ?_
  refine go_aload_n C 1 rfl rfl dX0_add_10 ?_
  refine go_gr (ci := 0) (j := 0) C fh_in0 rfl (by decide) rfl q_28 dX0_add_11 (fun k7 => ?_)
  refine go_iload_n C 0 rfl rfl dX0_add_14 ?_
  refine go_iload_n C 2 rfl rfl dX0_add_15 ?_
  refine go_iast C dX0_add_16 (fun σ8 => ?_)
  refine go_aload_n C 1 rfl rfl dX0_add_17 ?_
  refine go_gr (ci := 0) (j := 1) C fh_in0 rfl (by decide) rfl q_30 dX0_add_18 (fun k9 => ?_)
  refine go_iload_n C 0 rfl rfl dX0_add_21 ?_
  refine go_iconst C (0 : Int32) dX0_add_22 rfl ?_
  refine go_iast C dX0_add_23 (fun σ10 => ?_)
  refine go_aload_n C 1 rfl rfl dX0_add_24 ?_
  refine go_gr (ci := 0) (j := 2) C fh_in0 rfl (by decide) rfl q_33 dX0_add_25 (fun k11 => ?_)
  refine go_iload_n C 0 rfl rfl dX0_add_28 ?_
  refine go_iload_n C 0 rfl rfl dX0_add_29 ?_
  refine go_iast C dX0_add_30 (fun σ12 => ?_)
  refine go_aload_n C 1 rfl rfl dX0_add_31 ?_
  refine go_gr (ci := 0) (j := 3) C fh_in0 rfl (by decide) rfl q_36 dX0_add_32 (fun k13 => ?_)
  refine go_iload_n C 0 rfl rfl dX0_add_35 ?_
  refine go_iconst C (1 : Int32) dX0_add_36 rfl ?_
  refine go_iast C dX0_add_37 (fun σ14 => ?_)
  refine go_aload_n C 1 rfl rfl dX0_add_38 ?_
  refine go_gr (ci := 0) (j := 4) C fh_in0 rfl (by decide) rfl q_39 dX0_add_39 (fun k15 => ?_)
  refine go_iload_n C 0 rfl rfl dX0_add_42 ?_
  refine go_iconst C (0 : Int32) dX0_add_43 rfl ?_
  refine go_iast C dX0_add_44 (fun σ16 => ?_)
  refine go_aload_n C 1 rfl rfl dX0_add_45 ?_
  refine go_gr (ci := 0) (j := 5) C fh_in0 rfl (by decide) rfl q_40 dX0_add_46 (fun k17 => ?_)
  refine go_iload_n C 0 rfl rfl dX0_add_49 ?_
  refine go_iconst C (0 : Int32) dX0_add_50 rfl ?_
  refine go_iast C dX0_add_51 (fun σ18 => ?_)
  refine go_aload_n C 1 rfl rfl dX0_add_52 ?_
  refine go_iload_n C 0 rfl rfl dX0_add_53 ?_
  refine go_iconst C (1 : Int32) dX0_add_54 rfl ?_
  refine go_iadd C dX0_add_55 ?_
  refine go_pf (ci := 0) (j := 9) C tyX0 tyX0_ok nmX0 fh_in0 rfl (by decide) rfl q_46 rfl rfl dX0_add_56 (fun σ19 => ?_)
  refine go_iload_n C 0 rfl rfl dX0_add_59 ?_
  exact go_iret C Hr rfl dX0_add_60
theorem m_X0_add (E : fh_E) (l : Launch) (hok : fh_ok E) (k1 : Nat) (a2 : Int32) (σ3 : fh_S) : fh_Met E l yX0_add cX0_add 3 ((some FieldType.int)) rm_X0_add fh_vI [.ref (fh_ad E k1), .int a2] σ3 (f_X0_add k1 a2 σ3) := fh_met hok (by decide +kernel) (Nat.le_of_ble_eq_true rfl) (fun M _ C Hr => g_X0_add C Hr k1 a2 σ3)
def f_X0_rowOf (k1 : Nat) (a2 : Int32) (σ3 : fh_S) : Option (Option Nat × fh_S) := fh_ob 0 k1 (if a2 = (0 : Int32) then (fh_gr 0 k1 0).bind fun k4 => some (some k4, σ3) else if a2 = (1 : Int32) then (fh_gr 0 k1 1).bind fun k6 => some (some k6, σ3) else if a2 = (2 : Int32) then (fh_gr 0 k1 2).bind fun k8 => some (some k8, σ3) else if a2 = (3 : Int32) then (fh_gr 0 k1 3).bind fun k10 => some (some k10, σ3) else if a2 = (4 : Int32) then (fh_gr 0 k1 4).bind fun k12 => some (some k12, σ3) else if a2 = (5 : Int32) then (fh_gr 0 k1 5).bind fun k14 => some (some k14, σ3) else some (none, σ3))
abbrev rm_X0_rowOf : Room := { frames := 0, cells := 0, slots := 0, locals := 0 }
theorem pd_X0_rowOf : yX0_rowOf.cls ≠ "java/lang/invoke/MethodHandle" ∧ yX0_rowOf.cls ≠ "java/lang/invoke/VarHandle" ∧ (parseMethodDescriptor yX0_rowOf.desc).map (fun d => d.parameters.length) = some 1 := by decide +kernel
theorem dX0_rowOf_0 : decode cX0_rowOf 0 = .ok (.iload_n 1, 1) := by decide +kernel
theorem dX0_rowOf_1 : decode cX0_rowOf 1 = .ok (.tableswitch 69 0 5 #[39, 44, 49, 54, 59, 64], 39) := by decide +kernel
theorem dX0_rowOf_40 : decode cX0_rowOf 40 = .ok (.aload_n 0, 1) := by decide +kernel
theorem dX0_rowOf_41 : decode cX0_rowOf 41 = .ok (.getfield 9, 3) := by decide +kernel
theorem dX0_rowOf_44 : decode cX0_rowOf 44 = .ok (.areturn, 1) := by decide +kernel
theorem dX0_rowOf_45 : decode cX0_rowOf 45 = .ok (.aload_n 0, 1) := by decide +kernel
theorem dX0_rowOf_46 : decode cX0_rowOf 46 = .ok (.getfield 15, 3) := by decide +kernel
theorem dX0_rowOf_49 : decode cX0_rowOf 49 = .ok (.areturn, 1) := by decide +kernel
theorem dX0_rowOf_50 : decode cX0_rowOf 50 = .ok (.aload_n 0, 1) := by decide +kernel
theorem dX0_rowOf_51 : decode cX0_rowOf 51 = .ok (.getfield 18, 3) := by decide +kernel
theorem dX0_rowOf_54 : decode cX0_rowOf 54 = .ok (.areturn, 1) := by decide +kernel
theorem dX0_rowOf_55 : decode cX0_rowOf 55 = .ok (.aload_n 0, 1) := by decide +kernel
theorem dX0_rowOf_56 : decode cX0_rowOf 56 = .ok (.getfield 21, 3) := by decide +kernel
theorem dX0_rowOf_59 : decode cX0_rowOf 59 = .ok (.areturn, 1) := by decide +kernel
theorem dX0_rowOf_60 : decode cX0_rowOf 60 = .ok (.aload_n 0, 1) := by decide +kernel
theorem dX0_rowOf_61 : decode cX0_rowOf 61 = .ok (.getfield 24, 3) := by decide +kernel
theorem dX0_rowOf_64 : decode cX0_rowOf 64 = .ok (.areturn, 1) := by decide +kernel
theorem dX0_rowOf_65 : decode cX0_rowOf 65 = .ok (.aload_n 0, 1) := by decide +kernel
theorem dX0_rowOf_66 : decode cX0_rowOf 66 = .ok (.getfield 27, 3) := by decide +kernel
theorem dX0_rowOf_69 : decode cX0_rowOf 69 = .ok (.areturn, 1) := by decide +kernel
theorem dX0_rowOf_70 : decode cX0_rowOf 70 = .ok (.aconst_null, 1) := by decide +kernel
theorem dX0_rowOf_71 : decode cX0_rowOf 71 = .ok (.areturn, 1) := by decide +kernel
set_option maxHeartbeats 4000000 in
set_option maxRecDepth 100000 in
theorem g_X0_rowOf {E : fh_E} {M : fh_M} (C : fh_Cx E M cX0_rowOf 2 RX0 ((some (FieldType.array FieldType.int))) rm_X0_rowOf) (Hr : fh_Rt E M) (k1 : Nat) (a2 : Int32) (σ3 : fh_S) : fh_Go E M 2 (fh_vR E) 0 [(0, .ref (fh_ad E k1)), (1, .int a2)] [] σ3 (f_X0_rowOf k1 a2 σ3) := by
  have hok := fh_cok C
  refine go_ob ?_
  refine go_iload_n C 1 rfl rfl dX0_rowOf_0 ?_
  refine go_sw C (0 : Int32) 40 dX0_rowOf_1 (by decide) (by decide) rfl rfl ?_ (fun hn5 => ?_)
  · refine go_aload_n C 0 rfl rfl dX0_rowOf_40 ?_
    refine go_gr (ci := 0) (j := 0) C fh_in0 rfl (by decide) rfl q_28 dX0_rowOf_41 (fun k4 => ?_)
    exact go_aret C Hr rfl dX0_rowOf_44
  refine go_sw C (1 : Int32) 45 dX0_rowOf_1 (by decide) (by decide) rfl rfl ?_ (fun hn7 => ?_)
  · refine go_aload_n C 0 rfl rfl dX0_rowOf_45 ?_
    refine go_gr (ci := 0) (j := 1) C fh_in0 rfl (by decide) rfl q_30 dX0_rowOf_46 (fun k6 => ?_)
    exact go_aret C Hr rfl dX0_rowOf_49
  refine go_sw C (2 : Int32) 50 dX0_rowOf_1 (by decide) (by decide) rfl rfl ?_ (fun hn9 => ?_)
  · refine go_aload_n C 0 rfl rfl dX0_rowOf_50 ?_
    refine go_gr (ci := 0) (j := 2) C fh_in0 rfl (by decide) rfl q_33 dX0_rowOf_51 (fun k8 => ?_)
    exact go_aret C Hr rfl dX0_rowOf_54
  refine go_sw C (3 : Int32) 55 dX0_rowOf_1 (by decide) (by decide) rfl rfl ?_ (fun hn11 => ?_)
  · refine go_aload_n C 0 rfl rfl dX0_rowOf_55 ?_
    refine go_gr (ci := 0) (j := 3) C fh_in0 rfl (by decide) rfl q_36 dX0_rowOf_56 (fun k10 => ?_)
    exact go_aret C Hr rfl dX0_rowOf_59
  refine go_sw C (4 : Int32) 60 dX0_rowOf_1 (by decide) (by decide) rfl rfl ?_ (fun hn13 => ?_)
  · refine go_aload_n C 0 rfl rfl dX0_rowOf_60 ?_
    refine go_gr (ci := 0) (j := 4) C fh_in0 rfl (by decide) rfl q_39 dX0_rowOf_61 (fun k12 => ?_)
    exact go_aret C Hr rfl dX0_rowOf_64
  refine go_sw C (5 : Int32) 65 dX0_rowOf_1 (by decide) (by decide) rfl rfl ?_ (fun hn15 => ?_)
  · refine go_aload_n C 0 rfl rfl dX0_rowOf_65 ?_
    refine go_gr (ci := 0) (j := 5) C fh_in0 rfl (by decide) rfl q_40 dX0_rowOf_66 (fun k14 => ?_)
    exact go_aret C Hr rfl dX0_rowOf_69
  refine go_swd C 70 dX0_rowOf_1 (by have hh0 := fh_ne (z := 0) hn5 (by decide); have hh1 := fh_ne (z := 1) hn7 (by decide); have hh2 := fh_ne (z := 2) hn9 (by decide); have hh3 := fh_ne (z := 3) hn11 (by decide); have hh4 := fh_ne (z := 4) hn13 (by decide); have hh5 := fh_ne (z := 5) hn15 (by decide); omega) rfl ?_
  refine go_null C dX0_rowOf_70 ?_
  exact go_aretN C Hr rfl dX0_rowOf_71
theorem m_X0_rowOf (E : fh_E) (l : Launch) (hok : fh_ok E) (k1 : Nat) (a2 : Int32) (σ3 : fh_S) : fh_Met E l yX0_rowOf cX0_rowOf 2 ((some (FieldType.array FieldType.int))) rm_X0_rowOf (fh_vR E) [.ref (fh_ad E k1), .int a2] σ3 (f_X0_rowOf k1 a2 σ3) := fh_met hok (by decide +kernel) (Nat.le_of_ble_eq_true rfl) (fun M _ C Hr => g_X0_rowOf C Hr k1 a2 σ3)
def f_X4_isWithin (a1 : Int32) (a2 : Int32) (a3 : Int32) (σ4 : fh_S) : Option (Int32 × fh_S) := if a1 < a2 then fh_rz ((0 : Int32)) σ4 else if a3 < a1 then fh_rz ((0 : Int32)) σ4 else fh_rz ((1 : Int32)) σ4
abbrev rm_X4_isWithin : Room := { frames := 0, cells := 0, slots := 0, locals := 0 }
theorem pd_X4_isWithin : yX4_isWithin.cls ≠ "java/lang/invoke/MethodHandle" ∧ yX4_isWithin.cls ≠ "java/lang/invoke/VarHandle" ∧ (parseMethodDescriptor yX4_isWithin.desc).map (fun d => d.parameters.length) = some 3 := by decide +kernel
theorem dX4_isWithin_0 : decode cX4_isWithin 0 = .ok (.iload_n 0, 1) := by decide +kernel
theorem dX4_isWithin_1 : decode cX4_isWithin 1 = .ok (.iload_n 1, 1) := by decide +kernel
theorem dX4_isWithin_2 : decode cX4_isWithin 2 = .ok (.if_icmp .lt 12, 3) := by decide +kernel
theorem dX4_isWithin_5 : decode cX4_isWithin 5 = .ok (.iload_n 0, 1) := by decide +kernel
theorem dX4_isWithin_6 : decode cX4_isWithin 6 = .ok (.iload_n 2, 1) := by decide +kernel
theorem dX4_isWithin_7 : decode cX4_isWithin 7 = .ok (.if_icmp .gt 7, 3) := by decide +kernel
theorem dX4_isWithin_10 : decode cX4_isWithin 10 = .ok (.iconst 1, 1) := by decide +kernel
theorem dX4_isWithin_11 : decode cX4_isWithin 11 = .ok (.goto 4, 3) := by decide +kernel
theorem dX4_isWithin_14 : decode cX4_isWithin 14 = .ok (.iconst 0, 1) := by decide +kernel
theorem dX4_isWithin_15 : decode cX4_isWithin 15 = .ok (.ireturn, 1) := by decide +kernel
set_option maxHeartbeats 4000000 in
set_option maxRecDepth 100000 in
theorem g_X4_isWithin {E : fh_E} {M : fh_M} (C : fh_Cx E M cX4_isWithin 3 RX4 ((some FieldType.boolean)) rm_X4_isWithin) (Hr : fh_Rt E M) (a1 : Int32) (a2 : Int32) (a3 : Int32) (σ4 : fh_S) : fh_Go E M 3 fh_vI 0 [(0, .int a1), (1, .int a2), (2, .int a3)] [] σ4 (f_X4_isWithin a1 a2 a3 σ4) := by
  have hok := fh_cok C
  refine go_iload_n C 0 rfl rfl dX4_isWithin_0 ?_
  refine go_iload_n C 1 rfl rfl dX4_isWithin_1 ?_
  refine go_icmp_lt (tgt := 14) C dX4_isWithin_2 rfl (fun _ => ?_) (fun _ => ?_)
  · refine go_iconst C (0 : Int32) dX4_isWithin_14 rfl ?_
    exact go_zret C Hr dX4_isWithin_15
  · refine go_iload_n C 0 rfl rfl dX4_isWithin_5 ?_
    refine go_iload_n C 2 rfl rfl dX4_isWithin_6 ?_
    refine go_icmp_gt (tgt := 14) C dX4_isWithin_7 rfl (fun _ => ?_) (fun _ => ?_)
    · refine go_iconst C (0 : Int32) dX4_isWithin_14 rfl ?_
      exact go_zret C Hr dX4_isWithin_15
    · refine go_iconst C (1 : Int32) dX4_isWithin_10 rfl ?_
      refine go_goto C 15 dX4_isWithin_11 rfl ?_
      exact go_zret C Hr dX4_isWithin_15
theorem m_X4_isWithin (E : fh_E) (l : Launch) (hok : fh_ok E) (a1 : Int32) (a2 : Int32) (a3 : Int32) (σ4 : fh_S) : fh_Met E l yX4_isWithin cX4_isWithin 3 ((some FieldType.boolean)) rm_X4_isWithin fh_vI [.int a1, .int a2, .int a3] σ4 (f_X4_isWithin a1 a2 a3 σ4) := fh_met hok (by decide +kernel) (Nat.le_of_ble_eq_true rfl) (fun M _ C Hr => g_X4_isWithin C Hr a1 a2 a3 σ4)
def f_X4_isHour (a1 : Int32) (σ2 : fh_S) : Option (Int32 × fh_S) := fh_cb (f_X4_isWithin a1 ((0 : Int32)) ((719 : Int32)) σ2) fun r4 σ3 => fh_rz r4 σ3
abbrev rm_X4_isHour : Room := { frames := 1, cells := 0, slots := 0, locals := 22 }
theorem pd_X4_isHour : yX4_isHour.cls ≠ "java/lang/invoke/MethodHandle" ∧ yX4_isHour.cls ≠ "java/lang/invoke/VarHandle" ∧ (parseMethodDescriptor yX4_isHour.desc).map (fun d => d.parameters.length) = some 1 := by decide +kernel
theorem dX4_isHour_0 : decode cX4_isHour 0 = .ok (.iload_n 0, 1) := by decide +kernel
theorem dX4_isHour_1 : decode cX4_isHour 1 = .ok (.iconst 0, 1) := by decide +kernel
theorem dX4_isHour_2 : decode cX4_isHour 2 = .ok (.sipush 719, 3) := by decide +kernel
theorem dX4_isHour_5 : decode cX4_isHour 5 = .ok (.invokestatic 84, 3) := by decide +kernel
theorem dX4_isHour_8 : decode cX4_isHour 8 = .ok (.ireturn, 1) := by decide +kernel
set_option maxHeartbeats 4000000 in
set_option maxRecDepth 100000 in
theorem g_X4_isHour {E : fh_E} {M : fh_M} (C : fh_Cx E M cX4_isHour 1 RX4 ((some FieldType.boolean)) rm_X4_isHour) (Hr : fh_Rt E M) (a1 : Int32) (σ2 : fh_S) : fh_Go E M 1 fh_vI 0 [(0, .int a1)] [] σ2 (f_X4_isHour a1 σ2) := by
  have hok := fh_cok C
  refine go_iload_n C 0 rfl rfl dX4_isHour_0 ?_
  refine go_iconst C (0 : Int32) dX4_isHour_1 rfl ?_
  refine go_sipush C (719 : Int32) dX4_isHour_2 rfl ?_
  refine go_callSI C (st := []) [.int a1, .int ((0 : Int32)), .int ((719 : Int32))] (m_X4_isWithin E _ hok a1 ((0 : Int32)) ((719 : Int32)) σ2) rfl ⟨q_172, q_173, q_1, q_174⟩ pd_X4_isWithin rfl ⟨⟨Nat.le_of_ble_eq_true rfl, Nat.le_of_ble_eq_true rfl⟩, rfl, rfl⟩ (Nat.le_of_ble_eq_true rfl) dX4_isHour_5 (fun r4 σ3 => ?_)
  exact go_zret C Hr dX4_isHour_8
theorem m_X4_isHour (E : fh_E) (l : Launch) (hok : fh_ok E) (a1 : Int32) (σ2 : fh_S) : fh_Met E l yX4_isHour cX4_isHour 1 ((some FieldType.boolean)) rm_X4_isHour fh_vI [.int a1] σ2 (f_X4_isHour a1 σ2) := fh_met hok (by decide +kernel) (Nat.le_of_ble_eq_true rfl) (fun M _ C Hr => g_X4_isHour C Hr a1 σ2)
def f_X4_isKind (a1 : Int32) (σ2 : fh_S) : Option (Int32 × fh_S) := fh_cb (f_X4_isWithin a1 ((0 : Int32)) (((7 : Int32)) - ((1 : Int32))) σ2) fun r4 σ3 => fh_rz r4 σ3
abbrev rm_X4_isKind : Room := { frames := 1, cells := 0, slots := 0, locals := 22 }
theorem pd_X4_isKind : yX4_isKind.cls ≠ "java/lang/invoke/MethodHandle" ∧ yX4_isKind.cls ≠ "java/lang/invoke/VarHandle" ∧ (parseMethodDescriptor yX4_isKind.desc).map (fun d => d.parameters.length) = some 1 := by decide +kernel
theorem dX4_isKind_0 : decode cX4_isKind 0 = .ok (.iload_n 0, 1) := by decide +kernel
theorem dX4_isKind_1 : decode cX4_isKind 1 = .ok (.iconst 0, 1) := by decide +kernel
theorem dX4_isKind_2 : decode cX4_isKind 2 = .ok (.getstatic 174, 3) := by decide +kernel
theorem dX4_isKind_5 : decode cX4_isKind 5 = .ok (.arraylength, 1) := by decide +kernel
theorem dX4_isKind_6 : decode cX4_isKind 6 = .ok (.iconst 1, 1) := by decide +kernel
theorem dX4_isKind_7 : decode cX4_isKind 7 = .ok (.isub, 1) := by decide +kernel
theorem dX4_isKind_8 : decode cX4_isKind 8 = .ok (.invokestatic 84, 3) := by decide +kernel
theorem dX4_isKind_11 : decode cX4_isKind 11 = .ok (.ireturn, 1) := by decide +kernel
set_option maxHeartbeats 4000000 in
set_option maxRecDepth 100000 in
theorem g_X4_isKind {E : fh_E} {M : fh_M} (C : fh_Cx E M cX4_isKind 1 RX4 ((some FieldType.boolean)) rm_X4_isKind) (Hr : fh_Rt E M) (a1 : Int32) (σ2 : fh_S) : fh_Go E M 1 fh_vI 0 [(0, .int a1)] [] σ2 (f_X4_isKind a1 σ2) := by
  have hok := fh_cok C
  refine go_iload_n C 0 rfl rfl dX4_isKind_0 ?_
  refine go_iconst C (0 : Int32) dX4_isKind_1 rfl ?_
  refine go_tu C q_170 dX4_isKind_2 ?_
  refine go_tl C dX4_isKind_5 ?_
  refine go_iconst C (1 : Int32) dX4_isKind_6 rfl ?_
  refine go_isub C dX4_isKind_7 ?_
  refine go_callSI C (st := []) [.int a1, .int ((0 : Int32)), .int (((7 : Int32)) - ((1 : Int32)))] (m_X4_isWithin E _ hok a1 ((0 : Int32)) (((7 : Int32)) - ((1 : Int32))) σ2) rfl ⟨q_172, q_173, q_1, q_174⟩ pd_X4_isWithin rfl ⟨⟨Nat.le_of_ble_eq_true rfl, Nat.le_of_ble_eq_true rfl⟩, rfl, rfl⟩ (Nat.le_of_ble_eq_true rfl) dX4_isKind_8 (fun r4 σ3 => ?_)
  exact go_zret C Hr dX4_isKind_11
theorem m_X4_isKind (E : fh_E) (l : Launch) (hok : fh_ok E) (a1 : Int32) (σ2 : fh_S) : fh_Met E l yX4_isKind cX4_isKind 1 ((some FieldType.boolean)) rm_X4_isKind fh_vI [.int a1] σ2 (f_X4_isKind a1 σ2) := fh_met hok (by decide +kernel) (Nat.le_of_ble_eq_true rfl) (fun M _ C Hr => g_X4_isKind C Hr a1 σ2)
def f_X0_mayBecome (k1 : Nat) (a2 : Int32) (a3 : Int32) (σ4 : fh_S) : Option (Int32 × fh_S) := fh_ob 0 k1 (if a2 = (0 : Int32) then fh_cb (f_X4_isKind a3 σ4) fun r6 σ5 => fh_rz r6 σ5 else if a2 = (1 : Int32) then fh_cb (f_X4_isHour a3 σ4) fun r9 σ8 => fh_rz r9 σ8 else if a2 = (2 : Int32) then fh_cb (f_X0_has k1 a3 σ4) fun r12 σ11 => fh_rz r12 σ11 else if a2 = (3 : Int32) then fh_cb (f_X4_isWithin a3 ((-99 : Int32)) ((99 : Int32)) σ4) fun r15 σ14 => fh_rz r15 σ14 else if a2 = (4 : Int32) then fh_rz ((0 : Int32)) σ4 else if a2 = (5 : Int32) then fh_cb (f_X4_isWithin a3 ((0 : Int32)) ((9 : Int32)) σ4) fun r19 σ18 => fh_rz r19 σ18 else fh_rz ((0 : Int32)) σ4)
abbrev rm_X0_mayBecome : Room := { frames := 2, cells := 0, slots := 0, locals := 42 }
theorem pd_X0_mayBecome : yX0_mayBecome.cls ≠ "java/lang/invoke/MethodHandle" ∧ yX0_mayBecome.cls ≠ "java/lang/invoke/VarHandle" ∧ (parseMethodDescriptor yX0_mayBecome.desc).map (fun d => d.parameters.length) = some 2 := by decide +kernel
theorem dX0_mayBecome_0 : decode cX0_mayBecome 0 = .ok (.iload_n 1, 1) := by decide +kernel
theorem dX0_mayBecome_1 : decode cX0_mayBecome 1 = .ok (.tableswitch 72 0 5 #[39, 44, 49, 55, 72, 64], 39) := by decide +kernel
theorem dX0_mayBecome_40 : decode cX0_mayBecome 40 = .ok (.iload_n 2, 1) := by decide +kernel
theorem dX0_mayBecome_41 : decode cX0_mayBecome 41 = .ok (.invokestatic 61, 3) := by decide +kernel
theorem dX0_mayBecome_44 : decode cX0_mayBecome 44 = .ok (.ireturn, 1) := by decide +kernel
theorem dX0_mayBecome_45 : decode cX0_mayBecome 45 = .ok (.iload_n 2, 1) := by decide +kernel
theorem dX0_mayBecome_46 : decode cX0_mayBecome 46 = .ok (.invokestatic 65, 3) := by decide +kernel
theorem dX0_mayBecome_49 : decode cX0_mayBecome 49 = .ok (.ireturn, 1) := by decide +kernel
theorem dX0_mayBecome_50 : decode cX0_mayBecome 50 = .ok (.aload_n 0, 1) := by decide +kernel
theorem dX0_mayBecome_51 : decode cX0_mayBecome 51 = .ok (.iload_n 2, 1) := by decide +kernel
theorem dX0_mayBecome_52 : decode cX0_mayBecome 52 = .ok (.invokevirtual 68, 3) := by decide +kernel
theorem dX0_mayBecome_55 : decode cX0_mayBecome 55 = .ok (.ireturn, 1) := by decide +kernel
theorem dX0_mayBecome_56 : decode cX0_mayBecome 56 = .ok (.iload_n 2, 1) := by decide +kernel
theorem dX0_mayBecome_57 : decode cX0_mayBecome 57 = .ok (.bipush (-99), 2) := by decide +kernel
theorem dX0_mayBecome_59 : decode cX0_mayBecome 59 = .ok (.bipush 99, 2) := by decide +kernel
theorem dX0_mayBecome_61 : decode cX0_mayBecome 61 = .ok (.invokestatic 71, 3) := by decide +kernel
theorem dX0_mayBecome_64 : decode cX0_mayBecome 64 = .ok (.ireturn, 1) := by decide +kernel
theorem dX0_mayBecome_65 : decode cX0_mayBecome 65 = .ok (.iload_n 2, 1) := by decide +kernel
theorem dX0_mayBecome_66 : decode cX0_mayBecome 66 = .ok (.iconst 0, 1) := by decide +kernel
theorem dX0_mayBecome_67 : decode cX0_mayBecome 67 = .ok (.bipush 9, 2) := by decide +kernel
theorem dX0_mayBecome_69 : decode cX0_mayBecome 69 = .ok (.invokestatic 71, 3) := by decide +kernel
theorem dX0_mayBecome_72 : decode cX0_mayBecome 72 = .ok (.ireturn, 1) := by decide +kernel
theorem dX0_mayBecome_73 : decode cX0_mayBecome 73 = .ok (.iconst 0, 1) := by decide +kernel
theorem dX0_mayBecome_74 : decode cX0_mayBecome 74 = .ok (.ireturn, 1) := by decide +kernel
set_option maxHeartbeats 4000000 in
set_option maxRecDepth 100000 in
theorem g_X0_mayBecome {E : fh_E} {M : fh_M} (C : fh_Cx E M cX0_mayBecome 3 RX0 ((some FieldType.boolean)) rm_X0_mayBecome) (Hr : fh_Rt E M) (k1 : Nat) (a2 : Int32) (a3 : Int32) (σ4 : fh_S) : fh_Go E M 3 fh_vI 0 [(0, .ref (fh_ad E k1)), (1, .int a2), (2, .int a3)] [] σ4 (f_X0_mayBecome k1 a2 a3 σ4) := by
  have hok := fh_cok C
  refine go_ob ?_
  refine go_iload_n C 1 rfl rfl dX0_mayBecome_0 ?_
  refine go_sw C (0 : Int32) 40 dX0_mayBecome_1 (by decide) (by decide) rfl rfl ?_ (fun hn7 => ?_)
  · refine go_iload_n C 2 rfl rfl dX0_mayBecome_40 ?_
    refine go_callNI C (st := []) [.int a3] (m_X4_isKind E _ hok a3 σ4) rfl ⟨List.mem_of_getElem? (i := 2) rfl, q_168, q_1, q_169⟩ pd_X4_isKind rfl ⟨⟨Nat.le_of_ble_eq_true rfl, Nat.le_of_ble_eq_true rfl⟩, rfl, rfl⟩ (Nat.le_of_ble_eq_true rfl) dX0_mayBecome_41 (fun r6 σ5 => ?_)
    exact go_zret C Hr dX0_mayBecome_44
  refine go_sw C (1 : Int32) 45 dX0_mayBecome_1 (by decide) (by decide) rfl rfl ?_ (fun hn10 => ?_)
  · refine go_iload_n C 2 rfl rfl dX0_mayBecome_45 ?_
    refine go_callNI C (st := []) [.int a3] (m_X4_isHour E _ hok a3 σ4) rfl ⟨List.mem_of_getElem? (i := 3) rfl, q_231, q_1, q_232⟩ pd_X4_isHour rfl ⟨⟨Nat.le_of_ble_eq_true rfl, Nat.le_of_ble_eq_true rfl⟩, rfl, rfl⟩ (Nat.le_of_ble_eq_true rfl) dX0_mayBecome_46 (fun r9 σ8 => ?_)
    exact go_zret C Hr dX0_mayBecome_49
  refine go_sw C (2 : Int32) 50 dX0_mayBecome_1 (by decide) (by decide) rfl rfl ?_ (fun hn13 => ?_)
  · refine go_aload_n C 0 rfl rfl dX0_mayBecome_50 ?_
    refine go_iload_n C 2 rfl rfl dX0_mayBecome_51 ?_
    refine go_callVI C (st := []) [.int a3] (m_X0_has E _ hok k1 a3 σ4) (fun _ h => fh_ob_ok h) rfl rfl ⟨q_233, q_197, q_198, q_2, q_199⟩ pd_X0_has rfl ⟨⟨Nat.le_of_ble_eq_true rfl, Nat.le_of_ble_eq_true rfl⟩, rfl, rfl⟩ (Nat.le_of_ble_eq_true rfl) dX0_mayBecome_52 (fun r12 σ11 => ?_)
    exact go_zret C Hr dX0_mayBecome_55
  refine go_sw C (3 : Int32) 56 dX0_mayBecome_1 (by decide) (by decide) rfl rfl ?_ (fun hn16 => ?_)
  · refine go_iload_n C 2 rfl rfl dX0_mayBecome_56 ?_
    refine go_bipush C (-99 : Int32) dX0_mayBecome_57 rfl ?_
    refine go_bipush C (99 : Int32) dX0_mayBecome_59 rfl ?_
    refine go_callNI C (st := []) [.int a3, .int ((-99 : Int32)), .int ((99 : Int32))] (m_X4_isWithin E _ hok a3 ((-99 : Int32)) ((99 : Int32)) σ4) rfl ⟨List.mem_of_getElem? (i := 4) rfl, q_173, q_1, q_174⟩ pd_X4_isWithin rfl ⟨⟨Nat.le_of_ble_eq_true rfl, Nat.le_of_ble_eq_true rfl⟩, rfl, rfl⟩ (Nat.le_of_ble_eq_true rfl) dX0_mayBecome_61 (fun r15 σ14 => ?_)
    exact go_zret C Hr dX0_mayBecome_64
  refine go_sw C (4 : Int32) 73 dX0_mayBecome_1 (by decide) (by decide) rfl rfl ?_ (fun hn17 => ?_)
  · refine go_iconst C (0 : Int32) dX0_mayBecome_73 rfl ?_
    exact go_zret C Hr dX0_mayBecome_74
  refine go_sw C (5 : Int32) 65 dX0_mayBecome_1 (by decide) (by decide) rfl rfl ?_ (fun hn20 => ?_)
  · refine go_iload_n C 2 rfl rfl dX0_mayBecome_65 ?_
    refine go_iconst C (0 : Int32) dX0_mayBecome_66 rfl ?_
    refine go_bipush C (9 : Int32) dX0_mayBecome_67 rfl ?_
    refine go_callNI C (st := []) [.int a3, .int ((0 : Int32)), .int ((9 : Int32))] (m_X4_isWithin E _ hok a3 ((0 : Int32)) ((9 : Int32)) σ4) rfl ⟨List.mem_of_getElem? (i := 4) rfl, q_173, q_1, q_174⟩ pd_X4_isWithin rfl ⟨⟨Nat.le_of_ble_eq_true rfl, Nat.le_of_ble_eq_true rfl⟩, rfl, rfl⟩ (Nat.le_of_ble_eq_true rfl) dX0_mayBecome_69 (fun r19 σ18 => ?_)
    exact go_zret C Hr dX0_mayBecome_72
  refine go_swd C 73 dX0_mayBecome_1 (by have hh0 := fh_ne (z := 0) hn7 (by decide); have hh1 := fh_ne (z := 1) hn10 (by decide); have hh2 := fh_ne (z := 2) hn13 (by decide); have hh3 := fh_ne (z := 3) hn16 (by decide); have hh4 := fh_ne (z := 4) hn17 (by decide); have hh5 := fh_ne (z := 5) hn20 (by decide); omega) rfl ?_
  refine go_iconst C (0 : Int32) dX0_mayBecome_73 rfl ?_
  exact go_zret C Hr dX0_mayBecome_74
theorem m_X0_mayBecome (E : fh_E) (l : Launch) (hok : fh_ok E) (k1 : Nat) (a2 : Int32) (a3 : Int32) (σ4 : fh_S) : fh_Met E l yX0_mayBecome cX0_mayBecome 3 ((some FieldType.boolean)) rm_X0_mayBecome fh_vI [.ref (fh_ad E k1), .int a2, .int a3] σ4 (f_X0_mayBecome k1 a2 a3 σ4) := fh_met hok (by decide +kernel) (Nat.le_of_ble_eq_true rfl) (fun M _ C Hr => g_X0_mayBecome C Hr k1 a2 a3 σ4)
def f_J9_floorMod_7cf53 (a1 : Int32) (a2 : Int32) (σ3 : fh_S) : Option (Int32 × fh_S) := if a2 = 0 then none else if 0 ≤ (a1 ^^^ a2) then some (a1 - a1 / a2 * a2, σ3) else if (a1 - a1 / a2 * a2) = 0 then some (a1 - a1 / a2 * a2, σ3) else some ((a1 - a1 / a2 * a2) + a2, σ3)
abbrev rm_J9_floorMod_7cf53 : Room := { frames := 0, cells := 0, slots := 0, locals := 0 }
theorem pd_J9_floorMod_7cf53 : yJ9_floorMod_7cf53.cls ≠ "java/lang/invoke/MethodHandle" ∧ yJ9_floorMod_7cf53.cls ≠ "java/lang/invoke/VarHandle" ∧ (parseMethodDescriptor yJ9_floorMod_7cf53.desc).map (fun d => d.parameters.length) = some 2 := by decide +kernel
theorem dJ9_floorMod_7cf53_0 : decode cJ9_floorMod_7cf53 0 = .ok (.iload_n 0, 1) := by decide +kernel
theorem dJ9_floorMod_7cf53_1 : decode cJ9_floorMod_7cf53 1 = .ok (.iload_n 1, 1) := by decide +kernel
theorem dJ9_floorMod_7cf53_2 : decode cJ9_floorMod_7cf53 2 = .ok (.irem, 1) := by decide +kernel
theorem dJ9_floorMod_7cf53_3 : decode cJ9_floorMod_7cf53 3 = .ok (.istore_n 2, 1) := by decide +kernel
theorem dJ9_floorMod_7cf53_4 : decode cJ9_floorMod_7cf53 4 = .ok (.iload_n 0, 1) := by decide +kernel
theorem dJ9_floorMod_7cf53_5 : decode cJ9_floorMod_7cf53 5 = .ok (.iload_n 1, 1) := by decide +kernel
theorem dJ9_floorMod_7cf53_6 : decode cJ9_floorMod_7cf53 6 = .ok (.ixor, 1) := by decide +kernel
theorem dJ9_floorMod_7cf53_7 : decode cJ9_floorMod_7cf53 7 = .ok (.ifCond .ge 11, 3) := by decide +kernel
theorem dJ9_floorMod_7cf53_10 : decode cJ9_floorMod_7cf53 10 = .ok (.iload_n 2, 1) := by decide +kernel
theorem dJ9_floorMod_7cf53_11 : decode cJ9_floorMod_7cf53 11 = .ok (.ifCond .eq 7, 3) := by decide +kernel
theorem dJ9_floorMod_7cf53_14 : decode cJ9_floorMod_7cf53 14 = .ok (.iload_n 2, 1) := by decide +kernel
theorem dJ9_floorMod_7cf53_15 : decode cJ9_floorMod_7cf53 15 = .ok (.iload_n 1, 1) := by decide +kernel
theorem dJ9_floorMod_7cf53_16 : decode cJ9_floorMod_7cf53 16 = .ok (.iadd, 1) := by decide +kernel
theorem dJ9_floorMod_7cf53_17 : decode cJ9_floorMod_7cf53 17 = .ok (.ireturn, 1) := by decide +kernel
theorem dJ9_floorMod_7cf53_18 : decode cJ9_floorMod_7cf53 18 = .ok (.iload_n 2, 1) := by decide +kernel
theorem dJ9_floorMod_7cf53_19 : decode cJ9_floorMod_7cf53 19 = .ok (.ireturn, 1) := by decide +kernel
set_option maxHeartbeats 4000000 in
set_option maxRecDepth 100000 in
theorem g_J9_floorMod_7cf53 {E : fh_E} {M : fh_M} (C : fh_Cx E M cJ9_floorMod_7cf53 3 RJ9 ((some FieldType.int)) rm_J9_floorMod_7cf53) (Hr : fh_Rt E M) (a1 : Int32) (a2 : Int32) (σ3 : fh_S) : fh_Go E M 3 fh_vI 0 [(0, .int a1), (1, .int a2)] [] σ3 (f_J9_floorMod_7cf53 a1 a2 σ3) := by
  have hok := fh_cok C
  refine go_iload_n C 0 rfl rfl dJ9_floorMod_7cf53_0 ?_
  refine go_iload_n C 1 rfl rfl dJ9_floorMod_7cf53_1 ?_
  refine go_nz (fun hz4 => ?_)
  refine go_irem C dJ9_floorMod_7cf53_2 hz4 ?_
  refine go_istore_n C [(2, .int (a1 - a1 / a2 * a2)), (0, .int a1), (1, .int a2)] rfl rfl (by decide) dJ9_floorMod_7cf53_3 ?_
  refine go_iload_n C 1 rfl rfl dJ9_floorMod_7cf53_4 ?_
  refine go_iload_n C 2 rfl rfl dJ9_floorMod_7cf53_5 ?_
  refine go_ixor C dJ9_floorMod_7cf53_6 ?_
  refine go_if_ge (tgt := 18) C dJ9_floorMod_7cf53_7 rfl (fun _ => ?_) (fun _ => ?_)
  · refine go_iload_n C 0 rfl rfl dJ9_floorMod_7cf53_18 ?_
    exact go_iret C Hr rfl dJ9_floorMod_7cf53_19
  · refine go_iload_n C 0 rfl rfl dJ9_floorMod_7cf53_10 ?_
    refine go_if_eq (tgt := 18) C dJ9_floorMod_7cf53_11 rfl (fun _ => ?_) (fun _ => ?_)
    · refine go_iload_n C 0 rfl rfl dJ9_floorMod_7cf53_18 ?_
      exact go_iret C Hr rfl dJ9_floorMod_7cf53_19
    · refine go_iload_n C 0 rfl rfl dJ9_floorMod_7cf53_14 ?_
      refine go_iload_n C 2 rfl rfl dJ9_floorMod_7cf53_15 ?_
      refine go_iadd C dJ9_floorMod_7cf53_16 ?_
      exact go_iret C Hr rfl dJ9_floorMod_7cf53_17
theorem m_J9_floorMod_7cf53 (E : fh_E) (l : Launch) (hok : fh_ok E) (a1 : Int32) (a2 : Int32) (σ3 : fh_S) : fh_Met E l yJ9_floorMod_7cf53 cJ9_floorMod_7cf53 3 ((some FieldType.int)) rm_J9_floorMod_7cf53 fh_vI [.int a1, .int a2] σ3 (f_J9_floorMod_7cf53 a1 a2 σ3) := fh_met hok (by decide +kernel) (Nat.le_of_ble_eq_true rfl) (fun M _ C Hr => g_J9_floorMod_7cf53 C Hr a1 a2 σ3)
def f_X4_roundHour (a1 : Int32) (σ2 : fh_S) : Option (Int32 × fh_S) := fh_cb (f_J9_floorMod_7cf53 a1 ((720 : Int32)) σ2) fun r4 σ3 => some (r4, σ3)
abbrev rm_X4_roundHour : Room := { frames := 1, cells := 0, slots := 0, locals := 22 }
theorem pd_X4_roundHour : yX4_roundHour.cls ≠ "java/lang/invoke/MethodHandle" ∧ yX4_roundHour.cls ≠ "java/lang/invoke/VarHandle" ∧ (parseMethodDescriptor yX4_roundHour.desc).map (fun d => d.parameters.length) = some 1 := by decide +kernel
theorem dX4_roundHour_0 : decode cX4_roundHour 0 = .ok (.iload_n 0, 1) := by decide +kernel
theorem dX4_roundHour_1 : decode cX4_roundHour 1 = .ok (.sipush 720, 3) := by decide +kernel
theorem dX4_roundHour_4 : decode cX4_roundHour 4 = .ok (.invokestatic 281, 3) := by decide +kernel
theorem dX4_roundHour_7 : decode cX4_roundHour 7 = .ok (.ireturn, 1) := by decide +kernel
set_option maxHeartbeats 4000000 in
set_option maxRecDepth 100000 in
theorem g_X4_roundHour {E : fh_E} {M : fh_M} (C : fh_Cx E M cX4_roundHour 1 RX4 ((some FieldType.int)) rm_X4_roundHour) (Hr : fh_Rt E M) (a1 : Int32) (σ2 : fh_S) : fh_Go E M 1 fh_vI 0 [(0, .int a1)] [] σ2 (f_X4_roundHour a1 σ2) := by
  have hok := fh_cok C
  refine go_iload_n C 0 rfl rfl dX4_roundHour_0 ?_
  refine go_sipush C (720 : Int32) dX4_roundHour_1 rfl ?_
  refine go_callSI C (st := []) [.int a1, .int ((720 : Int32))] (m_J9_floorMod_7cf53 E _ hok a1 ((720 : Int32)) σ2) rfl ⟨q_246, q_247, q_7, q_248⟩ pd_J9_floorMod_7cf53 rfl ⟨⟨Nat.le_of_ble_eq_true rfl, Nat.le_of_ble_eq_true rfl⟩, rfl, rfl⟩ (Nat.le_of_ble_eq_true rfl) dX4_roundHour_4 (fun r4 σ3 => ?_)
  exact go_iret C Hr rfl dX4_roundHour_7
theorem m_X4_roundHour (E : fh_E) (l : Launch) (hok : fh_ok E) (a1 : Int32) (σ2 : fh_S) : fh_Met E l yX4_roundHour cX4_roundHour 1 ((some FieldType.int)) rm_X4_roundHour fh_vI [.int a1] σ2 (f_X4_roundHour a1 σ2) := fh_met hok (by decide +kernel) (Nat.le_of_ble_eq_true rfl) (fun M _ C Hr => g_X4_roundHour C Hr a1 σ2)
def f_X0_turn (k1 : Nat) (a2 : Int32) (a3 : Int32) (σ4 : fh_S) : Option (Unit × fh_S) := fh_ob 0 k1 ((fh_gr 0 k1 1).bind fun k5 => (fh_gr 0 k1 1).bind fun k6 => (fh_ld σ4 k6 a2).bind fun v7 => fh_cb (f_X4_roundHour (v7 + a3) σ4) fun r9 σ8 => (fh_st σ8 k5 a2 r9).bind fun σ10 => some ((), σ10))
abbrev rm_X0_turn : Room := { frames := 2, cells := 0, slots := 0, locals := 42 }
theorem pd_X0_turn : yX0_turn.cls ≠ "java/lang/invoke/MethodHandle" ∧ yX0_turn.cls ≠ "java/lang/invoke/VarHandle" ∧ (parseMethodDescriptor yX0_turn.desc).map (fun d => d.parameters.length) = some 2 := by decide +kernel
theorem dX0_turn_0 : decode cX0_turn 0 = .ok (.aload_n 0, 1) := by decide +kernel
theorem dX0_turn_1 : decode cX0_turn 1 = .ok (.getfield 15, 3) := by decide +kernel
theorem dX0_turn_4 : decode cX0_turn 4 = .ok (.iload_n 1, 1) := by decide +kernel
theorem dX0_turn_5 : decode cX0_turn 5 = .ok (.aload_n 0, 1) := by decide +kernel
theorem dX0_turn_6 : decode cX0_turn 6 = .ok (.getfield 15, 3) := by decide +kernel
theorem dX0_turn_9 : decode cX0_turn 9 = .ok (.iload_n 1, 1) := by decide +kernel
theorem dX0_turn_10 : decode cX0_turn 10 = .ok (.iaload, 1) := by decide +kernel
theorem dX0_turn_11 : decode cX0_turn 11 = .ok (.iload_n 2, 1) := by decide +kernel
theorem dX0_turn_12 : decode cX0_turn 12 = .ok (.iadd, 1) := by decide +kernel
theorem dX0_turn_13 : decode cX0_turn 13 = .ok (.invokestatic 75, 3) := by decide +kernel
theorem dX0_turn_16 : decode cX0_turn 16 = .ok (.iastore, 1) := by decide +kernel
theorem dX0_turn_17 : decode cX0_turn 17 = .ok (.return_, 1) := by decide +kernel
set_option maxHeartbeats 4000000 in
set_option maxRecDepth 100000 in
theorem g_X0_turn {E : fh_E} {M : fh_M} (C : fh_Cx E M cX0_turn 3 RX0 (none) rm_X0_turn) (Hr : fh_Rt E M) (k1 : Nat) (a2 : Int32) (a3 : Int32) (σ4 : fh_S) : fh_Go E M 3 fh_vU 0 [(0, .ref (fh_ad E k1)), (1, .int a2), (2, .int a3)] [] σ4 (f_X0_turn k1 a2 a3 σ4) := by
  have hok := fh_cok C
  refine go_ob ?_
  refine go_aload_n C 0 rfl rfl dX0_turn_0 ?_
  refine go_gr (ci := 0) (j := 1) C fh_in0 rfl (by decide) rfl q_30 dX0_turn_1 (fun k5 => ?_)
  refine go_iload_n C 1 rfl rfl dX0_turn_4 ?_
  refine go_aload_n C 0 rfl rfl dX0_turn_5 ?_
  refine go_gr (ci := 0) (j := 1) C fh_in0 rfl (by decide) rfl q_30 dX0_turn_6 (fun k6 => ?_)
  refine go_iload_n C 1 rfl rfl dX0_turn_9 ?_
  refine go_iald C dX0_turn_10 (fun v7 => ?_)
  refine go_iload_n C 2 rfl rfl dX0_turn_11 ?_
  refine go_iadd C dX0_turn_12 ?_
  refine go_callNI C (st := [.int a2, .ref (fh_ad E k5)]) [.int (v7 + a3)] (m_X4_roundHour E _ hok (v7 + a3) σ4) rfl ⟨List.mem_of_getElem? (i := 5) rfl, q_244, q_1, q_245⟩ pd_X4_roundHour rfl ⟨⟨Nat.le_of_ble_eq_true rfl, Nat.le_of_ble_eq_true rfl⟩, rfl, rfl⟩ (Nat.le_of_ble_eq_true rfl) dX0_turn_13 (fun r9 σ8 => ?_)
  refine go_iast C dX0_turn_16 (fun σ10 => ?_)
  exact go_vret C Hr rfl dX0_turn_17
theorem m_X0_turn (E : fh_E) (l : Launch) (hok : fh_ok E) (k1 : Nat) (a2 : Int32) (a3 : Int32) (σ4 : fh_S) : fh_Met E l yX0_turn cX0_turn 3 (none) rm_X0_turn fh_vU [.ref (fh_ad E k1), .int a2, .int a3] σ4 (f_X0_turn k1 a2 a3 σ4) := fh_met hok (by decide +kernel) (Nat.le_of_ble_eq_true rfl) (fun M _ C Hr => g_X0_turn C Hr k1 a2 a3 σ4)
def f_X0_freeze (k1 : Nat) (a2 : Int32) (σ3 : fh_S) : Option (Int32 × fh_S) := fh_ob 0 k1 ((fh_gr 0 k1 4).bind fun k4 => (fh_ld σ3 k4 a2).bind fun v5 => if v5 = ((1 : Int32)) then fh_rz ((0 : Int32)) σ3 else (fh_gr 0 k1 4).bind fun k6 => (fh_st σ3 k6 a2 ((1 : Int32))).bind fun σ7 => (fh_gr 0 k1 3).bind fun k8 => (fh_st σ7 k8 a2 ((0 : Int32))).bind fun σ9 => fh_rz ((1 : Int32)) σ9)
abbrev rm_X0_freeze : Room := { frames := 0, cells := 0, slots := 0, locals := 0 }
theorem pd_X0_freeze : yX0_freeze.cls ≠ "java/lang/invoke/MethodHandle" ∧ yX0_freeze.cls ≠ "java/lang/invoke/VarHandle" ∧ (parseMethodDescriptor yX0_freeze.desc).map (fun d => d.parameters.length) = some 1 := by decide +kernel
theorem dX0_freeze_0 : decode cX0_freeze 0 = .ok (.aload_n 0, 1) := by decide +kernel
theorem dX0_freeze_1 : decode cX0_freeze 1 = .ok (.getfield 24, 3) := by decide +kernel
theorem dX0_freeze_4 : decode cX0_freeze 4 = .ok (.iload_n 1, 1) := by decide +kernel
theorem dX0_freeze_5 : decode cX0_freeze 5 = .ok (.iaload, 1) := by decide +kernel
theorem dX0_freeze_6 : decode cX0_freeze 6 = .ok (.iconst 1, 1) := by decide +kernel
theorem dX0_freeze_7 : decode cX0_freeze 7 = .ok (.if_icmp .ne 5, 3) := by decide +kernel
theorem dX0_freeze_10 : decode cX0_freeze 10 = .ok (.iconst 0, 1) := by decide +kernel
theorem dX0_freeze_11 : decode cX0_freeze 11 = .ok (.ireturn, 1) := by decide +kernel
theorem dX0_freeze_12 : decode cX0_freeze 12 = .ok (.aload_n 0, 1) := by decide +kernel
theorem dX0_freeze_13 : decode cX0_freeze 13 = .ok (.getfield 24, 3) := by decide +kernel
theorem dX0_freeze_16 : decode cX0_freeze 16 = .ok (.iload_n 1, 1) := by decide +kernel
theorem dX0_freeze_17 : decode cX0_freeze 17 = .ok (.iconst 1, 1) := by decide +kernel
theorem dX0_freeze_18 : decode cX0_freeze 18 = .ok (.iastore, 1) := by decide +kernel
theorem dX0_freeze_19 : decode cX0_freeze 19 = .ok (.aload_n 0, 1) := by decide +kernel
theorem dX0_freeze_20 : decode cX0_freeze 20 = .ok (.getfield 21, 3) := by decide +kernel
theorem dX0_freeze_23 : decode cX0_freeze 23 = .ok (.iload_n 1, 1) := by decide +kernel
theorem dX0_freeze_24 : decode cX0_freeze 24 = .ok (.iconst 0, 1) := by decide +kernel
theorem dX0_freeze_25 : decode cX0_freeze 25 = .ok (.iastore, 1) := by decide +kernel
theorem dX0_freeze_26 : decode cX0_freeze 26 = .ok (.iconst 1, 1) := by decide +kernel
theorem dX0_freeze_27 : decode cX0_freeze 27 = .ok (.ireturn, 1) := by decide +kernel
set_option maxHeartbeats 4000000 in
set_option maxRecDepth 100000 in
theorem g_X0_freeze {E : fh_E} {M : fh_M} (C : fh_Cx E M cX0_freeze 2 RX0 ((some FieldType.boolean)) rm_X0_freeze) (Hr : fh_Rt E M) (k1 : Nat) (a2 : Int32) (σ3 : fh_S) : fh_Go E M 2 fh_vI 0 [(0, .ref (fh_ad E k1)), (1, .int a2)] [] σ3 (f_X0_freeze k1 a2 σ3) := by
  have hok := fh_cok C
  refine go_ob ?_
  refine go_aload_n C 0 rfl rfl dX0_freeze_0 ?_
  refine go_gr (ci := 0) (j := 4) C fh_in0 rfl (by decide) rfl q_39 dX0_freeze_1 (fun k4 => ?_)
  refine go_iload_n C 1 rfl rfl dX0_freeze_4 ?_
  refine go_iald C dX0_freeze_5 (fun v5 => ?_)
  refine go_iconst C (1 : Int32) dX0_freeze_6 rfl ?_
  refine go_icmp_ne (tgt := 12) C dX0_freeze_7 rfl (fun _ => ?_) (fun _ => ?_)
  · refine go_aload_n C 0 rfl rfl dX0_freeze_12 ?_
    refine go_gr (ci := 0) (j := 4) C fh_in0 rfl (by decide) rfl q_39 dX0_freeze_13 (fun k6 => ?_)
    refine go_iload_n C 1 rfl rfl dX0_freeze_16 ?_
    refine go_iconst C (1 : Int32) dX0_freeze_17 rfl ?_
    refine go_iast C dX0_freeze_18 (fun σ7 => ?_)
    refine go_aload_n C 0 rfl rfl dX0_freeze_19 ?_
    refine go_gr (ci := 0) (j := 3) C fh_in0 rfl (by decide) rfl q_36 dX0_freeze_20 (fun k8 => ?_)
    refine go_iload_n C 1 rfl rfl dX0_freeze_23 ?_
    refine go_iconst C (0 : Int32) dX0_freeze_24 rfl ?_
    refine go_iast C dX0_freeze_25 (fun σ9 => ?_)
    refine go_iconst C (1 : Int32) dX0_freeze_26 rfl ?_
    exact go_zret C Hr dX0_freeze_27
  · refine go_iconst C (0 : Int32) dX0_freeze_10 rfl ?_
    exact go_zret C Hr dX0_freeze_11
theorem m_X0_freeze (E : fh_E) (l : Launch) (hok : fh_ok E) (k1 : Nat) (a2 : Int32) (σ3 : fh_S) : fh_Met E l yX0_freeze cX0_freeze 2 ((some FieldType.boolean)) rm_X0_freeze fh_vI [.ref (fh_ad E k1), .int a2] σ3 (f_X0_freeze k1 a2 σ3) := fh_met hok (by decide +kernel) (Nat.le_of_ble_eq_true rfl) (fun M _ C Hr => g_X0_freeze C Hr k1 a2 σ3)
def f_X0_thaw (k1 : Nat) (a2 : Int32) (σ3 : fh_S) : Option (Int32 × fh_S) := fh_ob 0 k1 ((fh_gr 0 k1 4).bind fun k4 => (fh_ld σ3 k4 a2).bind fun v5 => if v5 = 0 then fh_rz ((0 : Int32)) σ3 else (fh_gr 0 k1 4).bind fun k6 => (fh_st σ3 k6 a2 ((0 : Int32))).bind fun σ7 => (fh_gr 0 k1 3).bind fun k8 => (fh_st σ7 k8 a2 ((1 : Int32))).bind fun σ9 => fh_rz ((1 : Int32)) σ9)
abbrev rm_X0_thaw : Room := { frames := 0, cells := 0, slots := 0, locals := 0 }
theorem pd_X0_thaw : yX0_thaw.cls ≠ "java/lang/invoke/MethodHandle" ∧ yX0_thaw.cls ≠ "java/lang/invoke/VarHandle" ∧ (parseMethodDescriptor yX0_thaw.desc).map (fun d => d.parameters.length) = some 1 := by decide +kernel
theorem dX0_thaw_0 : decode cX0_thaw 0 = .ok (.aload_n 0, 1) := by decide +kernel
theorem dX0_thaw_1 : decode cX0_thaw 1 = .ok (.getfield 24, 3) := by decide +kernel
theorem dX0_thaw_4 : decode cX0_thaw 4 = .ok (.iload_n 1, 1) := by decide +kernel
theorem dX0_thaw_5 : decode cX0_thaw 5 = .ok (.iaload, 1) := by decide +kernel
theorem dX0_thaw_6 : decode cX0_thaw 6 = .ok (.ifCond .ne 5, 3) := by decide +kernel
theorem dX0_thaw_9 : decode cX0_thaw 9 = .ok (.iconst 0, 1) := by decide +kernel
theorem dX0_thaw_10 : decode cX0_thaw 10 = .ok (.ireturn, 1) := by decide +kernel
theorem dX0_thaw_11 : decode cX0_thaw 11 = .ok (.aload_n 0, 1) := by decide +kernel
theorem dX0_thaw_12 : decode cX0_thaw 12 = .ok (.getfield 24, 3) := by decide +kernel
theorem dX0_thaw_15 : decode cX0_thaw 15 = .ok (.iload_n 1, 1) := by decide +kernel
theorem dX0_thaw_16 : decode cX0_thaw 16 = .ok (.iconst 0, 1) := by decide +kernel
theorem dX0_thaw_17 : decode cX0_thaw 17 = .ok (.iastore, 1) := by decide +kernel
theorem dX0_thaw_18 : decode cX0_thaw 18 = .ok (.aload_n 0, 1) := by decide +kernel
theorem dX0_thaw_19 : decode cX0_thaw 19 = .ok (.getfield 21, 3) := by decide +kernel
theorem dX0_thaw_22 : decode cX0_thaw 22 = .ok (.iload_n 1, 1) := by decide +kernel
theorem dX0_thaw_23 : decode cX0_thaw 23 = .ok (.iconst 1, 1) := by decide +kernel
theorem dX0_thaw_24 : decode cX0_thaw 24 = .ok (.iastore, 1) := by decide +kernel
theorem dX0_thaw_25 : decode cX0_thaw 25 = .ok (.iconst 1, 1) := by decide +kernel
theorem dX0_thaw_26 : decode cX0_thaw 26 = .ok (.ireturn, 1) := by decide +kernel
set_option maxHeartbeats 4000000 in
set_option maxRecDepth 100000 in
theorem g_X0_thaw {E : fh_E} {M : fh_M} (C : fh_Cx E M cX0_thaw 2 RX0 ((some FieldType.boolean)) rm_X0_thaw) (Hr : fh_Rt E M) (k1 : Nat) (a2 : Int32) (σ3 : fh_S) : fh_Go E M 2 fh_vI 0 [(0, .ref (fh_ad E k1)), (1, .int a2)] [] σ3 (f_X0_thaw k1 a2 σ3) := by
  have hok := fh_cok C
  refine go_ob ?_
  refine go_aload_n C 0 rfl rfl dX0_thaw_0 ?_
  refine go_gr (ci := 0) (j := 4) C fh_in0 rfl (by decide) rfl q_39 dX0_thaw_1 (fun k4 => ?_)
  refine go_iload_n C 1 rfl rfl dX0_thaw_4 ?_
  refine go_iald C dX0_thaw_5 (fun v5 => ?_)
  refine go_if_ne (tgt := 11) C dX0_thaw_6 rfl (fun _ => ?_) (fun _ => ?_)
  · refine go_aload_n C 0 rfl rfl dX0_thaw_11 ?_
    refine go_gr (ci := 0) (j := 4) C fh_in0 rfl (by decide) rfl q_39 dX0_thaw_12 (fun k6 => ?_)
    refine go_iload_n C 1 rfl rfl dX0_thaw_15 ?_
    refine go_iconst C (0 : Int32) dX0_thaw_16 rfl ?_
    refine go_iast C dX0_thaw_17 (fun σ7 => ?_)
    refine go_aload_n C 0 rfl rfl dX0_thaw_18 ?_
    refine go_gr (ci := 0) (j := 3) C fh_in0 rfl (by decide) rfl q_36 dX0_thaw_19 (fun k8 => ?_)
    refine go_iload_n C 1 rfl rfl dX0_thaw_22 ?_
    refine go_iconst C (1 : Int32) dX0_thaw_23 rfl ?_
    refine go_iast C dX0_thaw_24 (fun σ9 => ?_)
    refine go_iconst C (1 : Int32) dX0_thaw_25 rfl ?_
    exact go_zret C Hr dX0_thaw_26
  · refine go_iconst C (0 : Int32) dX0_thaw_9 rfl ?_
    exact go_zret C Hr dX0_thaw_10
theorem m_X0_thaw (E : fh_E) (l : Launch) (hok : fh_ok E) (k1 : Nat) (a2 : Int32) (σ3 : fh_S) : fh_Met E l yX0_thaw cX0_thaw 2 ((some FieldType.boolean)) rm_X0_thaw fh_vI [.ref (fh_ad E k1), .int a2] σ3 (f_X0_thaw k1 a2 σ3) := fh_met hok (by decide +kernel) (Nat.le_of_ble_eq_true rfl) (fun M _ C Hr => g_X0_thaw C Hr k1 a2 σ3)
def f_X0_draw (k1 : Nat) (σ2 : fh_S) : Option (Int32 × fh_S) := fh_ob 0 k1 ((fh_gi σ2 0 k1 11).bind fun v3 => (fh_pf σ2 0 k1 11 ((v3 * ((1103515245 : Int32))) + ((12345 : Int32)))).bind fun σ4 => (fh_gi σ4 0 k1 11).bind fun v5 => some ((v5.toUInt32 >>> (((8 : Int32)).toUInt32 &&& Int32.toUInt32 31)).toInt32, σ4))
abbrev rm_X0_draw : Room := { frames := 0, cells := 0, slots := 0, locals := 0 }
theorem pd_X0_draw : yX0_draw.cls ≠ "java/lang/invoke/MethodHandle" ∧ yX0_draw.cls ≠ "java/lang/invoke/VarHandle" ∧ (parseMethodDescriptor yX0_draw.desc).map (fun d => d.parameters.length) = some 0 := by decide +kernel
theorem dX0_draw_0 : decode cX0_draw 0 = .ok (.aload_n 0, 1) := by decide +kernel
theorem dX0_draw_1 : decode cX0_draw 1 = .ok (.aload_n 0, 1) := by decide +kernel
theorem dX0_draw_2 : decode cX0_draw 2 = .ok (.getfield 46, 3) := by decide +kernel
theorem dX0_draw_5 : decode cX0_draw 5 = .ok (.ldc 79, 2) := by decide +kernel
theorem dX0_draw_7 : decode cX0_draw 7 = .ok (.imul, 1) := by decide +kernel
theorem dX0_draw_8 : decode cX0_draw 8 = .ok (.sipush 12345, 3) := by decide +kernel
theorem dX0_draw_11 : decode cX0_draw 11 = .ok (.iadd, 1) := by decide +kernel
theorem dX0_draw_12 : decode cX0_draw 12 = .ok (.putfield 46, 3) := by decide +kernel
theorem dX0_draw_15 : decode cX0_draw 15 = .ok (.aload_n 0, 1) := by decide +kernel
theorem dX0_draw_16 : decode cX0_draw 16 = .ok (.getfield 46, 3) := by decide +kernel
theorem dX0_draw_19 : decode cX0_draw 19 = .ok (.bipush 8, 2) := by decide +kernel
theorem dX0_draw_21 : decode cX0_draw 21 = .ok (.iushr, 1) := by decide +kernel
theorem dX0_draw_22 : decode cX0_draw 22 = .ok (.ireturn, 1) := by decide +kernel
set_option maxHeartbeats 4000000 in
set_option maxRecDepth 100000 in
theorem g_X0_draw {E : fh_E} {M : fh_M} (C : fh_Cx E M cX0_draw 1 RX0 ((some FieldType.int)) rm_X0_draw) (Hr : fh_Rt E M) (k1 : Nat) (σ2 : fh_S) : fh_Go E M 1 fh_vI 0 [(0, .ref (fh_ad E k1))] [] σ2 (f_X0_draw k1 σ2) := by
  have hok := fh_cok C
  refine go_ob ?_
  refine go_aload_n C 0 rfl rfl dX0_draw_0 ?_
  refine go_aload_n C 0 rfl rfl dX0_draw_1 ?_
  refine go_gi (ci := 0) (j := 11) C fh_in0 rfl (by decide) rfl q_51 dX0_draw_2 (fun v3 => ?_)
  refine go_ldc C q_505 dX0_draw_5 ?_
  refine go_imul C dX0_draw_7 ?_
  refine go_sipush C (12345 : Int32) dX0_draw_8 rfl ?_
  refine go_iadd C dX0_draw_11 ?_
  refine go_pf (ci := 0) (j := 11) C tyX0 tyX0_ok nmX0 fh_in0 rfl (by decide) rfl q_51 rfl rfl dX0_draw_12 (fun σ4 => ?_)
  refine go_aload_n C 0 rfl rfl dX0_draw_15 ?_
  refine go_gi (ci := 0) (j := 11) C fh_in0 rfl (by decide) rfl q_51 dX0_draw_16 (fun v5 => ?_)
  refine go_bipush C (8 : Int32) dX0_draw_19 rfl ?_
  refine go_iushr C dX0_draw_21 ?_
  exact go_iret C Hr rfl dX0_draw_22
theorem m_X0_draw (E : fh_E) (l : Launch) (hok : fh_ok E) (k1 : Nat) (σ2 : fh_S) : fh_Met E l yX0_draw cX0_draw 1 ((some FieldType.int)) rm_X0_draw fh_vI [.ref (fh_ad E k1)] σ2 (f_X0_draw k1 σ2) := fh_met hok (by decide +kernel) (Nat.le_of_ble_eq_true rfl) (fun M _ C Hr => g_X0_draw C Hr k1 σ2)
def f_X0_lateOf (a1 : Int32) (σ2 : fh_S) : Option (Int32 × fh_S) := if a1 ≤ 0 then some (a1, σ2) else some (a1 - ((1 : Int32)), σ2)
abbrev rm_X0_lateOf : Room := { frames := 0, cells := 0, slots := 0, locals := 0 }
theorem pd_X0_lateOf : yX0_lateOf.cls ≠ "java/lang/invoke/MethodHandle" ∧ yX0_lateOf.cls ≠ "java/lang/invoke/VarHandle" ∧ (parseMethodDescriptor yX0_lateOf.desc).map (fun d => d.parameters.length) = some 1 := by decide +kernel
theorem dX0_lateOf_0 : decode cX0_lateOf 0 = .ok (.iload_n 0, 1) := by decide +kernel
theorem dX0_lateOf_1 : decode cX0_lateOf 1 = .ok (.ifCond .le 9, 3) := by decide +kernel
theorem dX0_lateOf_4 : decode cX0_lateOf 4 = .ok (.iload_n 0, 1) := by decide +kernel
theorem dX0_lateOf_5 : decode cX0_lateOf 5 = .ok (.iconst 1, 1) := by decide +kernel
theorem dX0_lateOf_6 : decode cX0_lateOf 6 = .ok (.isub, 1) := by decide +kernel
theorem dX0_lateOf_7 : decode cX0_lateOf 7 = .ok (.goto 4, 3) := by decide +kernel
theorem dX0_lateOf_10 : decode cX0_lateOf 10 = .ok (.iload_n 0, 1) := by decide +kernel
theorem dX0_lateOf_11 : decode cX0_lateOf 11 = .ok (.ireturn, 1) := by decide +kernel
set_option maxHeartbeats 4000000 in
set_option maxRecDepth 100000 in
theorem g_X0_lateOf {E : fh_E} {M : fh_M} (C : fh_Cx E M cX0_lateOf 1 RX0 ((some FieldType.int)) rm_X0_lateOf) (Hr : fh_Rt E M) (a1 : Int32) (σ2 : fh_S) : fh_Go E M 1 fh_vI 0 [(0, .int a1)] [] σ2 (f_X0_lateOf a1 σ2) := by
  have hok := fh_cok C
  refine go_iload_n C 0 rfl rfl dX0_lateOf_0 ?_
  refine go_if_le (tgt := 10) C dX0_lateOf_1 rfl (fun _ => ?_) (fun _ => ?_)
  · refine go_iload_n C 0 rfl rfl dX0_lateOf_10 ?_
    exact go_iret C Hr rfl dX0_lateOf_11
  · refine go_iload_n C 0 rfl rfl dX0_lateOf_4 ?_
    refine go_iconst C (1 : Int32) dX0_lateOf_5 rfl ?_
    refine go_isub C dX0_lateOf_6 ?_
    refine go_goto C 11 dX0_lateOf_7 rfl ?_
    exact go_iret C Hr rfl dX0_lateOf_11
theorem m_X0_lateOf (E : fh_E) (l : Launch) (hok : fh_ok E) (a1 : Int32) (σ2 : fh_S) : fh_Met E l yX0_lateOf cX0_lateOf 1 ((some FieldType.int)) rm_X0_lateOf fh_vI [.int a1] σ2 (f_X0_lateOf a1 σ2) := fh_met hok (by decide +kernel) (Nat.le_of_ble_eq_true rfl) (fun M _ C Hr => g_X0_lateOf C Hr a1 σ2)
def f_X0_paceBehind_J113 (v6 : Int32) : Int32 → fh_S → Option (Int32 × fh_S) := fun x14 σ15 => some ((((-2 : Int32)) * v6) + x14, σ15)
def f_X0_paceBehind_J83 (v6 : Int32) : Int32 → fh_S → Option (Int32 × fh_S) := fun x19 σ20 => some ((v6 / ((2 : Int32))) + x19, σ20)
def f_X0_paceBehind_J82 (j21 : Int32 → fh_S → Option (Int32 × fh_S)) : fh_S → Option (Int32 × fh_S) := fun σ22 => j21 ((0 : Int32)) σ22
def f_X0_paceBehind (k1 : Nat) (a2 : Int32) (a3 : Int32) (σ4 : fh_S) : Option (Int32 × fh_S) := fh_ob 0 k1 ((fh_gr 0 k1 3).bind fun k5 => (fh_ld σ4 k5 a2).bind fun v6 => if a3 = (1 : Int32) then fh_cb (f_X0_lateOf v6 σ4) fun r8 σ7 => some (r8, σ7) else if a3 = (2 : Int32) then some (((2 : Int32)) * v6, σ4) else if a3 = (3 : Int32) then some (((-2 : Int32)) * v6, σ4) else if a3 = (4 : Int32) then (fh_gr 0 k1 4).bind fun k12 => (fh_ld σ4 k12 a2).bind fun v13 => fh_jn (f_X0_paceBehind_J113 v6) (fun j16 => if v13 = ((1 : Int32)) then j16 ((3 : Int32)) σ4 else j16 ((0 : Int32)) σ4) else if a3 = (5 : Int32) then (fh_gi σ4 0 k1 10).bind fun v18 => fh_jn (f_X0_paceBehind_J83 v6) (fun j21 => fh_jn (f_X0_paceBehind_J82 j21) (fun j23 => if (v18 - v18 / ((2 : Int32)) * ((2 : Int32))) = ((1 : Int32)) then if v6 = 0 then j23 σ4 else j21 ((1 : Int32)) σ4 else j23 σ4)) else if a3 = (6 : Int32) then fh_cb (f_X0_lateOf v6 σ4) fun r26 σ25 => fh_cb (f_X0_lateOf r26 σ25) fun r28 σ27 => some (r28, σ27) else some (v6, σ4))
abbrev rm_X0_paceBehind : Room := { frames := 1, cells := 0, slots := 0, locals := 20 }
theorem pd_X0_paceBehind : yX0_paceBehind.cls ≠ "java/lang/invoke/MethodHandle" ∧ yX0_paceBehind.cls ≠ "java/lang/invoke/VarHandle" ∧ (parseMethodDescriptor yX0_paceBehind.desc).map (fun d => d.parameters.length) = some 2 := by decide +kernel
theorem dX0_paceBehind_0 : decode cX0_paceBehind 0 = .ok (.aload_n 0, 1) := by decide +kernel
theorem dX0_paceBehind_1 : decode cX0_paceBehind 1 = .ok (.getfield 21, 3) := by decide +kernel
theorem dX0_paceBehind_4 : decode cX0_paceBehind 4 = .ok (.iload_n 1, 1) := by decide +kernel
theorem dX0_paceBehind_5 : decode cX0_paceBehind 5 = .ok (.iaload, 1) := by decide +kernel
theorem dX0_paceBehind_6 : decode cX0_paceBehind 6 = .ok (.istore_n 3, 1) := by decide +kernel
theorem dX0_paceBehind_7 : decode cX0_paceBehind 7 = .ok (.iload_n 2, 1) := by decide +kernel
theorem dX0_paceBehind_8 : decode cX0_paceBehind 8 = .ok (.tableswitch 107 1 6 #[40, 77, 81, 86, 53, 45], 40) := by decide +kernel
theorem dX0_paceBehind_48 : decode cX0_paceBehind 48 = .ok (.iload_n 3, 1) := by decide +kernel
theorem dX0_paceBehind_49 : decode cX0_paceBehind 49 = .ok (.invokestatic 89, 3) := by decide +kernel
theorem dX0_paceBehind_52 : decode cX0_paceBehind 52 = .ok (.ireturn, 1) := by decide +kernel
theorem dX0_paceBehind_53 : decode cX0_paceBehind 53 = .ok (.iload_n 3, 1) := by decide +kernel
theorem dX0_paceBehind_54 : decode cX0_paceBehind 54 = .ok (.invokestatic 89, 3) := by decide +kernel
theorem dX0_paceBehind_57 : decode cX0_paceBehind 57 = .ok (.invokestatic 89, 3) := by decide +kernel
theorem dX0_paceBehind_60 : decode cX0_paceBehind 60 = .ok (.ireturn, 1) := by decide +kernel
theorem dX0_paceBehind_61 : decode cX0_paceBehind 61 = .ok (.iload_n 3, 1) := by decide +kernel
theorem dX0_paceBehind_62 : decode cX0_paceBehind 62 = .ok (.iconst 2, 1) := by decide +kernel
theorem dX0_paceBehind_63 : decode cX0_paceBehind 63 = .ok (.idiv, 1) := by decide +kernel
theorem dX0_paceBehind_64 : decode cX0_paceBehind 64 = .ok (.aload_n 0, 1) := by decide +kernel
theorem dX0_paceBehind_65 : decode cX0_paceBehind 65 = .ok (.getfield 43, 3) := by decide +kernel
theorem dX0_paceBehind_68 : decode cX0_paceBehind 68 = .ok (.iconst 2, 1) := by decide +kernel
theorem dX0_paceBehind_69 : decode cX0_paceBehind 69 = .ok (.irem, 1) := by decide +kernel
theorem dX0_paceBehind_70 : decode cX0_paceBehind 70 = .ok (.iconst 1, 1) := by decide +kernel
theorem dX0_paceBehind_71 : decode cX0_paceBehind 71 = .ok (.if_icmp .ne 11, 3) := by decide +kernel
theorem dX0_paceBehind_74 : decode cX0_paceBehind 74 = .ok (.iload_n 3, 1) := by decide +kernel
theorem dX0_paceBehind_75 : decode cX0_paceBehind 75 = .ok (.ifCond .eq 7, 3) := by decide +kernel
theorem dX0_paceBehind_78 : decode cX0_paceBehind 78 = .ok (.iconst 1, 1) := by decide +kernel
theorem dX0_paceBehind_79 : decode cX0_paceBehind 79 = .ok (.goto 4, 3) := by decide +kernel
theorem dX0_paceBehind_82 : decode cX0_paceBehind 82 = .ok (.iconst 0, 1) := by decide +kernel
theorem dX0_paceBehind_83 : decode cX0_paceBehind 83 = .ok (.iadd, 1) := by decide +kernel
theorem dX0_paceBehind_84 : decode cX0_paceBehind 84 = .ok (.ireturn, 1) := by decide +kernel
theorem dX0_paceBehind_85 : decode cX0_paceBehind 85 = .ok (.iconst 2, 1) := by decide +kernel
theorem dX0_paceBehind_86 : decode cX0_paceBehind 86 = .ok (.iload_n 3, 1) := by decide +kernel
theorem dX0_paceBehind_87 : decode cX0_paceBehind 87 = .ok (.imul, 1) := by decide +kernel
theorem dX0_paceBehind_88 : decode cX0_paceBehind 88 = .ok (.ireturn, 1) := by decide +kernel
theorem dX0_paceBehind_89 : decode cX0_paceBehind 89 = .ok (.bipush (-2), 2) := by decide +kernel
theorem dX0_paceBehind_91 : decode cX0_paceBehind 91 = .ok (.iload_n 3, 1) := by decide +kernel
theorem dX0_paceBehind_92 : decode cX0_paceBehind 92 = .ok (.imul, 1) := by decide +kernel
theorem dX0_paceBehind_93 : decode cX0_paceBehind 93 = .ok (.ireturn, 1) := by decide +kernel
theorem dX0_paceBehind_94 : decode cX0_paceBehind 94 = .ok (.bipush (-2), 2) := by decide +kernel
theorem dX0_paceBehind_96 : decode cX0_paceBehind 96 = .ok (.iload_n 3, 1) := by decide +kernel
theorem dX0_paceBehind_97 : decode cX0_paceBehind 97 = .ok (.imul, 1) := by decide +kernel
theorem dX0_paceBehind_98 : decode cX0_paceBehind 98 = .ok (.aload_n 0, 1) := by decide +kernel
theorem dX0_paceBehind_99 : decode cX0_paceBehind 99 = .ok (.getfield 24, 3) := by decide +kernel
theorem dX0_paceBehind_102 : decode cX0_paceBehind 102 = .ok (.iload_n 1, 1) := by decide +kernel
theorem dX0_paceBehind_103 : decode cX0_paceBehind 103 = .ok (.iaload, 1) := by decide +kernel
theorem dX0_paceBehind_104 : decode cX0_paceBehind 104 = .ok (.iconst 1, 1) := by decide +kernel
theorem dX0_paceBehind_105 : decode cX0_paceBehind 105 = .ok (.if_icmp .ne 7, 3) := by decide +kernel
theorem dX0_paceBehind_108 : decode cX0_paceBehind 108 = .ok (.iconst 3, 1) := by decide +kernel
theorem dX0_paceBehind_109 : decode cX0_paceBehind 109 = .ok (.goto 4, 3) := by decide +kernel
theorem dX0_paceBehind_112 : decode cX0_paceBehind 112 = .ok (.iconst 0, 1) := by decide +kernel
theorem dX0_paceBehind_113 : decode cX0_paceBehind 113 = .ok (.iadd, 1) := by decide +kernel
theorem dX0_paceBehind_114 : decode cX0_paceBehind 114 = .ok (.ireturn, 1) := by decide +kernel
theorem dX0_paceBehind_115 : decode cX0_paceBehind 115 = .ok (.iload_n 3, 1) := by decide +kernel
theorem dX0_paceBehind_116 : decode cX0_paceBehind 116 = .ok (.ireturn, 1) := by decide +kernel
set_option maxHeartbeats 4000000 in
set_option maxRecDepth 100000 in
theorem g_X0_paceBehind {E : fh_E} {M : fh_M} (C : fh_Cx E M cX0_paceBehind 4 RX0 ((some FieldType.int)) rm_X0_paceBehind) (Hr : fh_Rt E M) (k1 : Nat) (a2 : Int32) (a3 : Int32) (σ4 : fh_S) : fh_Go E M 4 fh_vI 0 [(0, .ref (fh_ad E k1)), (1, .int a2), (2, .int a3)] [] σ4 (f_X0_paceBehind k1 a2 a3 σ4) := by
  have hok := fh_cok C
  refine go_ob ?_
  refine go_aload_n C 0 rfl rfl dX0_paceBehind_0 ?_
  refine go_gr (ci := 0) (j := 3) C fh_in0 rfl (by decide) rfl q_36 dX0_paceBehind_1 (fun k5 => ?_)
  refine go_iload_n C 1 rfl rfl dX0_paceBehind_4 ?_
  refine go_iald C dX0_paceBehind_5 (fun v6 => ?_)
  refine go_istore_n C [(3, .int v6), (0, .ref (fh_ad E k1)), (1, .int a2), (2, .int a3)] rfl rfl (by decide) dX0_paceBehind_6 ?_
  refine go_iload_n C 3 rfl rfl dX0_paceBehind_7 ?_
  refine go_sw C (1 : Int32) 48 dX0_paceBehind_8 (by decide) (by decide) rfl rfl ?_ (fun hn9 => ?_)
  · refine go_iload_n C 0 rfl rfl dX0_paceBehind_48 ?_
    refine go_callSI C (st := []) [.int v6] (m_X0_lateOf E _ hok v6 σ4) rfl ⟨q_208, q_209, q_2, q_210⟩ pd_X0_lateOf rfl ⟨⟨Nat.le_of_ble_eq_true rfl, Nat.le_of_ble_eq_true rfl⟩, rfl, rfl⟩ (Nat.le_of_ble_eq_true rfl) dX0_paceBehind_49 (fun r8 σ7 => ?_)
    exact go_iret C Hr rfl dX0_paceBehind_52
  refine go_sw C (2 : Int32) 85 dX0_paceBehind_8 (by decide) (by decide) rfl rfl ?_ (fun hn10 => ?_)
  · refine go_iconst C (2 : Int32) dX0_paceBehind_85 rfl ?_
    refine go_iload_n C 0 rfl rfl dX0_paceBehind_86 ?_
    refine go_imul C dX0_paceBehind_87 ?_
    exact go_iret C Hr rfl dX0_paceBehind_88
  refine go_sw C (3 : Int32) 89 dX0_paceBehind_8 (by decide) (by decide) rfl rfl ?_ (fun hn11 => ?_)
  · refine go_bipush C (-2 : Int32) dX0_paceBehind_89 rfl ?_
    refine go_iload_n C 0 rfl rfl dX0_paceBehind_91 ?_
    refine go_imul C dX0_paceBehind_92 ?_
    exact go_iret C Hr rfl dX0_paceBehind_93
  refine go_sw C (4 : Int32) 94 dX0_paceBehind_8 (by decide) (by decide) rfl rfl ?_ (fun hn17 => ?_)
  · refine go_bipush C (-2 : Int32) dX0_paceBehind_94 rfl ?_
    refine go_iload_n C 0 rfl rfl dX0_paceBehind_96 ?_
    refine go_imul C dX0_paceBehind_97 ?_
    refine go_aload_n C 1 rfl rfl dX0_paceBehind_98 ?_
    refine go_gr (ci := 0) (j := 4) C fh_in0 rfl (by decide) rfl q_39 dX0_paceBehind_99 (fun k12 => ?_)
    refine go_iload_n C 2 rfl rfl dX0_paceBehind_102 ?_
    refine go_iald C dX0_paceBehind_103 (fun v13 => ?_)
    refine go_iconst C (1 : Int32) dX0_paceBehind_104 rfl ?_
    refine go_jn (fun (j16 : Int32 → fh_S → Option (Int32 × fh_S)) => ∀ (x14 : Int32) (σ15 : fh_S), fh_Go E M 4 fh_vI 113 [] [.int x14, .int (((-2 : Int32)) * v6)] σ15 (j16 x14 σ15)) ?_ (fun j16 hj16 => ?_)
    · intro x14 σ15
      refine go_iadd C dX0_paceBehind_113 ?_
      exact go_iret C Hr rfl dX0_paceBehind_114
    refine go_icmp_ne (tgt := 112) C dX0_paceBehind_105 rfl (fun _ => ?_) (fun _ => ?_)
    · refine go_iconst C (0 : Int32) dX0_paceBehind_112 rfl ?_
      refine go_lv [] (lv' := []) rfl ?_
      exact hj16 ((0 : Int32)) σ4
    · refine go_iconst C (3 : Int32) dX0_paceBehind_108 rfl ?_
      refine go_goto C 113 dX0_paceBehind_109 rfl ?_
      refine go_lv [] (lv' := []) rfl ?_
      exact hj16 ((3 : Int32)) σ4
  refine go_sw C (5 : Int32) 61 dX0_paceBehind_8 (by decide) (by decide) rfl rfl ?_ (fun hn24 => ?_)
  · refine go_iload_n C 0 rfl rfl dX0_paceBehind_61 ?_
    refine go_iconst C (2 : Int32) dX0_paceBehind_62 rfl ?_
    refine go_idiv C dX0_paceBehind_63 (by decide) ?_
    refine go_aload_n C 1 rfl rfl dX0_paceBehind_64 ?_
    refine go_gi (ci := 0) (j := 10) C fh_in0 rfl (by decide) rfl q_49 dX0_paceBehind_65 (fun v18 => ?_)
    refine go_iconst C (2 : Int32) dX0_paceBehind_68 rfl ?_
    refine go_irem C dX0_paceBehind_69 (by decide) ?_
    refine go_iconst C (1 : Int32) dX0_paceBehind_70 rfl ?_
    refine go_jn (fun (j21 : Int32 → fh_S → Option (Int32 × fh_S)) => ∀ (x19 : Int32) (σ20 : fh_S), fh_Go E M 4 fh_vI 83 [] [.int x19, .int (v6 / ((2 : Int32)))] σ20 (j21 x19 σ20)) ?_ (fun j21 hj21 => ?_)
    · intro x19 σ20
      refine go_iadd C dX0_paceBehind_83 ?_
      exact go_iret C Hr rfl dX0_paceBehind_84
    refine go_jn (fun (j23 : fh_S → Option (Int32 × fh_S)) => ∀ (σ22 : fh_S), fh_Go E M 4 fh_vI 82 [] [.int (v6 / ((2 : Int32)))] σ22 (j23 σ22)) ?_ (fun j23 hj23 => ?_)
    · intro σ22
      refine go_iconst C (0 : Int32) dX0_paceBehind_82 rfl ?_
      exact hj21 ((0 : Int32)) σ22
    refine go_icmp_ne (tgt := 82) C dX0_paceBehind_71 rfl (fun _ => ?_) (fun _ => ?_)
    · refine go_lv [] (lv' := []) rfl ?_
      exact hj23 σ4
    · refine go_iload_n C 0 rfl rfl dX0_paceBehind_74 ?_
      refine go_if_eq (tgt := 82) C dX0_paceBehind_75 rfl (fun _ => ?_) (fun _ => ?_)
      · refine go_lv [] (lv' := []) rfl ?_
        exact hj23 σ4
      · refine go_iconst C (1 : Int32) dX0_paceBehind_78 rfl ?_
        refine go_goto C 83 dX0_paceBehind_79 rfl ?_
        refine go_lv [] (lv' := []) rfl ?_
        exact hj21 ((1 : Int32)) σ4
  refine go_sw C (6 : Int32) 53 dX0_paceBehind_8 (by decide) (by decide) rfl rfl ?_ (fun hn29 => ?_)
  · refine go_iload_n C 0 rfl rfl dX0_paceBehind_53 ?_
    refine go_callSI C (st := []) [.int v6] (m_X0_lateOf E _ hok v6 σ4) rfl ⟨q_208, q_209, q_2, q_210⟩ pd_X0_lateOf rfl ⟨⟨Nat.le_of_ble_eq_true rfl, Nat.le_of_ble_eq_true rfl⟩, rfl, rfl⟩ (Nat.le_of_ble_eq_true rfl) dX0_paceBehind_54 (fun r26 σ25 => ?_)
    refine go_callSI C (st := []) [.int r26] (m_X0_lateOf E _ hok r26 σ25) rfl ⟨q_208, q_209, q_2, q_210⟩ pd_X0_lateOf rfl ⟨⟨Nat.le_of_ble_eq_true rfl, Nat.le_of_ble_eq_true rfl⟩, rfl, rfl⟩ (Nat.le_of_ble_eq_true rfl) dX0_paceBehind_57 (fun r28 σ27 => ?_)
    exact go_iret C Hr rfl dX0_paceBehind_60
  refine go_swd C 115 dX0_paceBehind_8 (by have hh0 := fh_ne (z := 1) hn9 (by decide); have hh1 := fh_ne (z := 2) hn10 (by decide); have hh2 := fh_ne (z := 3) hn11 (by decide); have hh3 := fh_ne (z := 4) hn17 (by decide); have hh4 := fh_ne (z := 5) hn24 (by decide); have hh5 := fh_ne (z := 6) hn29 (by decide); omega) rfl ?_
  refine go_iload_n C 0 rfl rfl dX0_paceBehind_115 ?_
  exact go_iret C Hr rfl dX0_paceBehind_116
theorem m_X0_paceBehind (E : fh_E) (l : Launch) (hok : fh_ok E) (k1 : Nat) (a2 : Int32) (a3 : Int32) (σ4 : fh_S) : fh_Met E l yX0_paceBehind cX0_paceBehind 4 ((some FieldType.int)) rm_X0_paceBehind fh_vI [.ref (fh_ad E k1), .int a2, .int a3] σ4 (f_X0_paceBehind k1 a2 a3 σ4) := fh_met hok (by decide +kernel) (Nat.le_of_ble_eq_true rfl) (fun M _ C Hr => g_X0_paceBehind C Hr k1 a2 a3 σ4)
def f_J9_abs_0f7a4 (a1 : Int32) (σ2 : fh_S) : Option (Int32 × fh_S) := if 0 ≤ a1 then some (a1, σ2) else some (-a1, σ2)
abbrev rm_J9_abs_0f7a4 : Room := { frames := 0, cells := 0, slots := 0, locals := 0 }
theorem pd_J9_abs_0f7a4 : yJ9_abs_0f7a4.cls ≠ "java/lang/invoke/MethodHandle" ∧ yJ9_abs_0f7a4.cls ≠ "java/lang/invoke/VarHandle" ∧ (parseMethodDescriptor yJ9_abs_0f7a4.desc).map (fun d => d.parameters.length) = some 1 := by decide +kernel
theorem dJ9_abs_0f7a4_0 : decode cJ9_abs_0f7a4 0 = .ok (.iload_n 0, 1) := by decide +kernel
theorem dJ9_abs_0f7a4_1 : decode cJ9_abs_0f7a4 1 = .ok (.ifCond .ge 8, 3) := by decide +kernel
theorem dJ9_abs_0f7a4_4 : decode cJ9_abs_0f7a4 4 = .ok (.iload_n 0, 1) := by decide +kernel
theorem dJ9_abs_0f7a4_5 : decode cJ9_abs_0f7a4 5 = .ok (.ineg, 1) := by decide +kernel
theorem dJ9_abs_0f7a4_6 : decode cJ9_abs_0f7a4 6 = .ok (.goto 4, 3) := by decide +kernel
theorem dJ9_abs_0f7a4_9 : decode cJ9_abs_0f7a4 9 = .ok (.iload_n 0, 1) := by decide +kernel
theorem dJ9_abs_0f7a4_10 : decode cJ9_abs_0f7a4 10 = .ok (.ireturn, 1) := by decide +kernel
set_option maxHeartbeats 4000000 in
set_option maxRecDepth 100000 in
theorem g_J9_abs_0f7a4 {E : fh_E} {M : fh_M} (C : fh_Cx E M cJ9_abs_0f7a4 1 RJ9 ((some FieldType.int)) rm_J9_abs_0f7a4) (Hr : fh_Rt E M) (a1 : Int32) (σ2 : fh_S) : fh_Go E M 1 fh_vI 0 [(0, .int a1)] [] σ2 (f_J9_abs_0f7a4 a1 σ2) := by
  have hok := fh_cok C
  refine go_iload_n C 0 rfl rfl dJ9_abs_0f7a4_0 ?_
  refine go_if_ge (tgt := 9) C dJ9_abs_0f7a4_1 rfl (fun _ => ?_) (fun _ => ?_)
  · refine go_iload_n C 0 rfl rfl dJ9_abs_0f7a4_9 ?_
    exact go_iret C Hr rfl dJ9_abs_0f7a4_10
  · refine go_iload_n C 0 rfl rfl dJ9_abs_0f7a4_4 ?_
    refine go_ineg C dJ9_abs_0f7a4_5 ?_
    refine go_goto C 10 dJ9_abs_0f7a4_6 rfl ?_
    exact go_iret C Hr rfl dJ9_abs_0f7a4_10
theorem m_J9_abs_0f7a4 (E : fh_E) (l : Launch) (hok : fh_ok E) (a1 : Int32) (σ2 : fh_S) : fh_Met E l yJ9_abs_0f7a4 cJ9_abs_0f7a4 1 ((some FieldType.int)) rm_J9_abs_0f7a4 fh_vI [.int a1] σ2 (f_J9_abs_0f7a4 a1 σ2) := fh_met hok (by decide +kernel) (Nat.le_of_ble_eq_true rfl) (fun M _ C Hr => g_J9_abs_0f7a4 C Hr a1 σ2)
def f_J9_max_7cf53 (a1 : Int32) (a2 : Int32) (σ3 : fh_S) : Option (Int32 × fh_S) := if a1 < a2 then some (a2, σ3) else some (a1, σ3)
abbrev rm_J9_max_7cf53 : Room := { frames := 0, cells := 0, slots := 0, locals := 0 }
theorem pd_J9_max_7cf53 : yJ9_max_7cf53.cls ≠ "java/lang/invoke/MethodHandle" ∧ yJ9_max_7cf53.cls ≠ "java/lang/invoke/VarHandle" ∧ (parseMethodDescriptor yJ9_max_7cf53.desc).map (fun d => d.parameters.length) = some 2 := by decide +kernel
theorem dJ9_max_7cf53_0 : decode cJ9_max_7cf53 0 = .ok (.iload_n 0, 1) := by decide +kernel
theorem dJ9_max_7cf53_1 : decode cJ9_max_7cf53 1 = .ok (.iload_n 1, 1) := by decide +kernel
theorem dJ9_max_7cf53_2 : decode cJ9_max_7cf53 2 = .ok (.if_icmp .lt 7, 3) := by decide +kernel
theorem dJ9_max_7cf53_5 : decode cJ9_max_7cf53 5 = .ok (.iload_n 0, 1) := by decide +kernel
theorem dJ9_max_7cf53_6 : decode cJ9_max_7cf53 6 = .ok (.goto 4, 3) := by decide +kernel
theorem dJ9_max_7cf53_9 : decode cJ9_max_7cf53 9 = .ok (.iload_n 1, 1) := by decide +kernel
theorem dJ9_max_7cf53_10 : decode cJ9_max_7cf53 10 = .ok (.ireturn, 1) := by decide +kernel
set_option maxHeartbeats 4000000 in
set_option maxRecDepth 100000 in
theorem g_J9_max_7cf53 {E : fh_E} {M : fh_M} (C : fh_Cx E M cJ9_max_7cf53 2 RJ9 ((some FieldType.int)) rm_J9_max_7cf53) (Hr : fh_Rt E M) (a1 : Int32) (a2 : Int32) (σ3 : fh_S) : fh_Go E M 2 fh_vI 0 [(0, .int a1), (1, .int a2)] [] σ3 (f_J9_max_7cf53 a1 a2 σ3) := by
  have hok := fh_cok C
  refine go_iload_n C 0 rfl rfl dJ9_max_7cf53_0 ?_
  refine go_iload_n C 1 rfl rfl dJ9_max_7cf53_1 ?_
  refine go_icmp_lt (tgt := 9) C dJ9_max_7cf53_2 rfl (fun _ => ?_) (fun _ => ?_)
  · refine go_iload_n C 1 rfl rfl dJ9_max_7cf53_9 ?_
    exact go_iret C Hr rfl dJ9_max_7cf53_10
  · refine go_iload_n C 0 rfl rfl dJ9_max_7cf53_5 ?_
    refine go_goto C 10 dJ9_max_7cf53_6 rfl ?_
    exact go_iret C Hr rfl dJ9_max_7cf53_10
theorem m_J9_max_7cf53 (E : fh_E) (l : Launch) (hok : fh_ok E) (a1 : Int32) (a2 : Int32) (σ3 : fh_S) : fh_Met E l yJ9_max_7cf53 cJ9_max_7cf53 2 ((some FieldType.int)) rm_J9_max_7cf53 fh_vI [.int a1, .int a2] σ3 (f_J9_max_7cf53 a1 a2 σ3) := fh_met hok (by decide +kernel) (Nat.le_of_ble_eq_true rfl) (fun M _ C Hr => g_J9_max_7cf53 C Hr a1 a2 σ3)
def f_X0_paceOf_J32 (k1 : Nat) (a2 : Int32) : Int32 → fh_S → Option (Int32 × fh_S) := fun x6 σ7 => fh_cb (f_J9_abs_0f7a4 x6 σ7) fun r9 σ8 => (fh_gr 0 k1 5).bind fun k10 => (fh_ld σ8 k10 a2).bind fun v11 => fh_cb (f_J9_max_7cf53 ((0 : Int32)) (r9 - v11) σ8) fun r13 σ12 => fh_cb (f_J9_min_7cf53 r13 ((99 : Int32)) σ12) fun r15 σ14 => if 0 ≤ x6 then some (r15, σ14) else some (-r15, σ14)
def f_X0_paceOf (k1 : Nat) (a2 : Int32) (σ3 : fh_S) : Option (Int32 × fh_S) := fh_ob 0 k1 ((fh_gr 0 k1 2).bind fun k4 => (fh_ld σ3 k4 a2).bind fun v5 => fh_jn (f_X0_paceOf_J32 k1 a2) (fun j16 => if v5 = a2 then (fh_gr 0 k1 3).bind fun k21 => (fh_ld σ3 k21 a2).bind fun v22 => j16 v22 σ3 else (fh_gr 0 k1 0).bind fun k17 => (fh_ld σ3 k17 a2).bind fun v18 => fh_cb (f_X0_paceBehind k1 v5 v18 σ3) fun r20 σ19 => j16 r20 σ19))
abbrev rm_X0_paceOf : Room := { frames := 2, cells := 0, slots := 0, locals := 43 }
theorem pd_X0_paceOf : yX0_paceOf.cls ≠ "java/lang/invoke/MethodHandle" ∧ yX0_paceOf.cls ≠ "java/lang/invoke/VarHandle" ∧ (parseMethodDescriptor yX0_paceOf.desc).map (fun d => d.parameters.length) = some 1 := by decide +kernel
theorem dX0_paceOf_0 : decode cX0_paceOf 0 = .ok (.aload_n 0, 1) := by decide +kernel
theorem dX0_paceOf_1 : decode cX0_paceOf 1 = .ok (.getfield 18, 3) := by decide +kernel
theorem dX0_paceOf_4 : decode cX0_paceOf 4 = .ok (.iload_n 1, 1) := by decide +kernel
theorem dX0_paceOf_5 : decode cX0_paceOf 5 = .ok (.iaload, 1) := by decide +kernel
theorem dX0_paceOf_6 : decode cX0_paceOf 6 = .ok (.istore_n 2, 1) := by decide +kernel
theorem dX0_paceOf_7 : decode cX0_paceOf 7 = .ok (.iload_n 2, 1) := by decide +kernel
theorem dX0_paceOf_8 : decode cX0_paceOf 8 = .ok (.iload_n 1, 1) := by decide +kernel
theorem dX0_paceOf_9 : decode cX0_paceOf 9 = .ok (.if_icmp .ne 12, 3) := by decide +kernel
theorem dX0_paceOf_12 : decode cX0_paceOf 12 = .ok (.aload_n 0, 1) := by decide +kernel
theorem dX0_paceOf_13 : decode cX0_paceOf 13 = .ok (.getfield 21, 3) := by decide +kernel
theorem dX0_paceOf_16 : decode cX0_paceOf 16 = .ok (.iload_n 1, 1) := by decide +kernel
theorem dX0_paceOf_17 : decode cX0_paceOf 17 = .ok (.iaload, 1) := by decide +kernel
theorem dX0_paceOf_18 : decode cX0_paceOf 18 = .ok (.goto 14, 3) := by decide +kernel
theorem dX0_paceOf_21 : decode cX0_paceOf 21 = .ok (.aload_n 0, 1) := by decide +kernel
theorem dX0_paceOf_22 : decode cX0_paceOf 22 = .ok (.iload_n 2, 1) := by decide +kernel
theorem dX0_paceOf_23 : decode cX0_paceOf 23 = .ok (.aload_n 0, 1) := by decide +kernel
theorem dX0_paceOf_24 : decode cX0_paceOf 24 = .ok (.getfield 9, 3) := by decide +kernel
theorem dX0_paceOf_27 : decode cX0_paceOf 27 = .ok (.iload_n 1, 1) := by decide +kernel
theorem dX0_paceOf_28 : decode cX0_paceOf 28 = .ok (.iaload, 1) := by decide +kernel
theorem dX0_paceOf_29 : decode cX0_paceOf 29 = .ok (.invokevirtual 80, 3) := by decide +kernel
theorem dX0_paceOf_32 : decode cX0_paceOf 32 = .ok (.istore_n 3, 1) := by decide +kernel
theorem dX0_paceOf_33 : decode cX0_paceOf 33 = .ok (.iconst 0, 1) := by decide +kernel
theorem dX0_paceOf_34 : decode cX0_paceOf 34 = .ok (.iload_n 3, 1) := by decide +kernel
theorem dX0_paceOf_35 : decode cX0_paceOf 35 = .ok (.invokestatic 83, 3) := by decide +kernel
theorem dX0_paceOf_38 : decode cX0_paceOf 38 = .ok (.aload_n 0, 1) := by decide +kernel
theorem dX0_paceOf_39 : decode cX0_paceOf 39 = .ok (.getfield 27, 3) := by decide +kernel
theorem dX0_paceOf_42 : decode cX0_paceOf 42 = .ok (.iload_n 1, 1) := by decide +kernel
theorem dX0_paceOf_43 : decode cX0_paceOf 43 = .ok (.iaload, 1) := by decide +kernel
theorem dX0_paceOf_44 : decode cX0_paceOf 44 = .ok (.isub, 1) := by decide +kernel
theorem dX0_paceOf_45 : decode cX0_paceOf 45 = .ok (.invokestatic 86, 3) := by decide +kernel
theorem dX0_paceOf_48 : decode cX0_paceOf 48 = .ok (.istore 4, 2) := by decide +kernel
theorem dX0_paceOf_50 : decode cX0_paceOf 50 = .ok (.iload 4, 2) := by decide +kernel
theorem dX0_paceOf_52 : decode cX0_paceOf 52 = .ok (.bipush 99, 2) := by decide +kernel
theorem dX0_paceOf_54 : decode cX0_paceOf 54 = .ok (.invokestatic 55, 3) := by decide +kernel
theorem dX0_paceOf_57 : decode cX0_paceOf 57 = .ok (.istore 5, 2) := by decide +kernel
theorem dX0_paceOf_59 : decode cX0_paceOf 59 = .ok (.iload_n 3, 1) := by decide +kernel
theorem dX0_paceOf_60 : decode cX0_paceOf 60 = .ok (.ifCond .ge 9, 3) := by decide +kernel
theorem dX0_paceOf_63 : decode cX0_paceOf 63 = .ok (.iload 5, 2) := by decide +kernel
theorem dX0_paceOf_65 : decode cX0_paceOf 65 = .ok (.ineg, 1) := by decide +kernel
theorem dX0_paceOf_66 : decode cX0_paceOf 66 = .ok (.goto 5, 3) := by decide +kernel
theorem dX0_paceOf_69 : decode cX0_paceOf 69 = .ok (.iload 5, 2) := by decide +kernel
theorem dX0_paceOf_71 : decode cX0_paceOf 71 = .ok (.ireturn, 1) := by decide +kernel
set_option maxHeartbeats 4000000 in
set_option maxRecDepth 100000 in
theorem g_X0_paceOf {E : fh_E} {M : fh_M} (C : fh_Cx E M cX0_paceOf 6 RX0 ((some FieldType.int)) rm_X0_paceOf) (Hr : fh_Rt E M) (k1 : Nat) (a2 : Int32) (σ3 : fh_S) : fh_Go E M 6 fh_vI 0 [(0, .ref (fh_ad E k1)), (1, .int a2)] [] σ3 (f_X0_paceOf k1 a2 σ3) := by
  have hok := fh_cok C
  refine go_ob ?_
  refine go_aload_n C 0 rfl rfl dX0_paceOf_0 ?_
  refine go_gr (ci := 0) (j := 2) C fh_in0 rfl (by decide) rfl q_33 dX0_paceOf_1 (fun k4 => ?_)
  refine go_iload_n C 1 rfl rfl dX0_paceOf_4 ?_
  refine go_iald C dX0_paceOf_5 (fun v5 => ?_)
  refine go_istore_n C [(2, .int v5), (0, .ref (fh_ad E k1)), (1, .int a2)] rfl rfl (by decide) dX0_paceOf_6 ?_
  refine go_iload_n C 0 rfl rfl dX0_paceOf_7 ?_
  refine go_iload_n C 2 rfl rfl dX0_paceOf_8 ?_
  refine go_jn (fun (j16 : Int32 → fh_S → Option (Int32 × fh_S)) => ∀ (x6 : Int32) (σ7 : fh_S), fh_Go E M 6 fh_vI 32 [(0, .ref (fh_ad E k1)), (1, .int a2)] [.int x6] σ7 (j16 x6 σ7)) ?_ (fun j16 hj16 => ?_)
  · intro x6 σ7
    refine go_istore_n C [(3, .int x6), (0, .ref (fh_ad E k1)), (1, .int a2)] rfl rfl (by decide) dX0_paceOf_32 ?_
    refine go_iconst C (0 : Int32) dX0_paceOf_33 rfl ?_
    refine go_iload_n C 0 rfl rfl dX0_paceOf_34 ?_
    refine go_callSI C (st := [.int ((0 : Int32))]) [.int x6] (m_J9_abs_0f7a4 E _ hok x6 σ7) rfl ⟨q_211, q_212, q_7, q_213⟩ pd_J9_abs_0f7a4 rfl ⟨⟨Nat.le_of_ble_eq_true rfl, Nat.le_of_ble_eq_true rfl⟩, rfl, rfl⟩ (Nat.le_of_ble_eq_true rfl) dX0_paceOf_35 (fun r9 σ8 => ?_)
    refine go_aload_n C 1 rfl rfl dX0_paceOf_38 ?_
    refine go_gr (ci := 0) (j := 5) C fh_in0 rfl (by decide) rfl q_40 dX0_paceOf_39 (fun k10 => ?_)
    refine go_iload_n C 2 rfl rfl dX0_paceOf_42 ?_
    refine go_iald C dX0_paceOf_43 (fun v11 => ?_)
    refine go_isub C dX0_paceOf_44 ?_
    refine go_callSI C (st := []) [.int ((0 : Int32)), .int (r9 - v11)] (m_J9_max_7cf53 E _ hok ((0 : Int32)) (r9 - v11) σ8) rfl ⟨q_214, q_215, q_7, q_216⟩ pd_J9_max_7cf53 rfl ⟨⟨Nat.le_of_ble_eq_true rfl, Nat.le_of_ble_eq_true rfl⟩, rfl, rfl⟩ (Nat.le_of_ble_eq_true rfl) dX0_paceOf_45 (fun r13 σ12 => ?_)
    refine go_istore C [(4, .int r13), (3, .int x6), (0, .ref (fh_ad E k1)), (1, .int a2)] rfl (by decide) dX0_paceOf_48 ?_
    refine go_iload C 0 rfl dX0_paceOf_50 ?_
    refine go_bipush C (99 : Int32) dX0_paceOf_52 rfl ?_
    refine go_callSI C (st := []) [.int r13, .int ((99 : Int32))] (m_J9_min_7cf53 E _ hok r13 ((99 : Int32)) σ12) rfl ⟨q_189, q_190, q_7, q_191⟩ pd_J9_min_7cf53 rfl ⟨⟨Nat.le_of_ble_eq_true rfl, Nat.le_of_ble_eq_true rfl⟩, rfl, rfl⟩ (Nat.le_of_ble_eq_true rfl) dX0_paceOf_54 (fun r15 σ14 => ?_)
    refine go_istore C [(5, .int r15), (4, .int r13), (3, .int x6), (0, .ref (fh_ad E k1)), (1, .int a2)] rfl (by decide) dX0_paceOf_57 ?_
    refine go_iload_n C 2 rfl rfl dX0_paceOf_59 ?_
    refine go_if_ge (tgt := 69) C dX0_paceOf_60 rfl (fun _ => ?_) (fun _ => ?_)
    · refine go_iload C 0 rfl dX0_paceOf_69 ?_
      exact go_iret C Hr rfl dX0_paceOf_71
    · refine go_iload C 0 rfl dX0_paceOf_63 ?_
      refine go_ineg C dX0_paceOf_65 ?_
      refine go_goto C 71 dX0_paceOf_66 rfl ?_
      exact go_iret C Hr rfl dX0_paceOf_71
  refine go_icmp_ne (tgt := 21) C dX0_paceOf_9 rfl (fun _ => ?_) (fun _ => ?_)
  · refine go_aload_n C 1 rfl rfl dX0_paceOf_21 ?_
    refine go_iload_n C 0 rfl rfl dX0_paceOf_22 ?_
    refine go_aload_n C 1 rfl rfl dX0_paceOf_23 ?_
    refine go_gr (ci := 0) (j := 0) C fh_in0 rfl (by decide) rfl q_28 dX0_paceOf_24 (fun k17 => ?_)
    refine go_iload_n C 2 rfl rfl dX0_paceOf_27 ?_
    refine go_iald C dX0_paceOf_28 (fun v18 => ?_)
    refine go_callVI C (st := []) [.int v5, .int v18] (m_X0_paceBehind E _ hok k1 v5 v18 σ3) (fun _ h => fh_ob_ok h) rfl rfl ⟨q_204, q_206, qs_1, q_2, q_207⟩ pd_X0_paceBehind rfl ⟨⟨Nat.le_of_ble_eq_true rfl, Nat.le_of_ble_eq_true rfl⟩, rfl, rfl⟩ (Nat.le_of_ble_eq_true rfl) dX0_paceOf_29 (fun r20 σ19 => ?_)
    refine go_lv [1, 2] (lv' := [(0, .ref (fh_ad E k1)), (1, .int a2)]) rfl ?_
    exact hj16 r20 σ19
  · refine go_aload_n C 1 rfl rfl dX0_paceOf_12 ?_
    refine go_gr (ci := 0) (j := 3) C fh_in0 rfl (by decide) rfl q_36 dX0_paceOf_13 (fun k21 => ?_)
    refine go_iload_n C 2 rfl rfl dX0_paceOf_16 ?_
    refine go_iald C dX0_paceOf_17 (fun v22 => ?_)
    refine go_goto C 32 dX0_paceOf_18 rfl ?_
    refine go_lv [1, 2] (lv' := [(0, .ref (fh_ad E k1)), (1, .int a2)]) rfl ?_
    exact hj16 v22 σ3
theorem m_X0_paceOf (E : fh_E) (l : Launch) (hok : fh_ok E) (k1 : Nat) (a2 : Int32) (σ3 : fh_S) : fh_Met E l yX0_paceOf cX0_paceOf 6 ((some FieldType.int)) rm_X0_paceOf fh_vI [.ref (fh_ad E k1), .int a2] σ3 (f_X0_paceOf k1 a2 σ3) := fh_met hok (by decide +kernel) (Nat.le_of_ble_eq_true rfl) (fun M _ C Hr => g_X0_paceOf C Hr k1 a2 σ3)
def f_X0_passTick_B43 (k1 : Nat) (r9 : Int32 → fh_S → Option (Unit × fh_S)) : Int32 → fh_S → Option (Unit × fh_S) := fun x7 σ8 => (fh_gi σ8 0 k1 9).bind fun v10 => if v10 ≤ x7 then (fh_gi σ8 0 k1 10).bind fun v11 => fh_cb (f_J9_min_7cf53 (v11 + ((1 : Int32))) ((99999 : Int32)) σ8) fun r13 σ12 => (fh_pf σ12 0 k1 10 r13).bind fun σ14 => some ((), σ14) else (fh_gr 0 k1 3).bind fun k15 => (fh_gr 0 k1 7).bind fun k16 => (fh_ld σ8 k16 x7).bind fun v17 => (fh_st σ8 k15 x7 v17).bind fun σ18 => (fh_gr 0 k1 7).bind fun k19 => (fh_ld σ18 k19 x7).bind fun v20 => fh_cb (f_X0_turn k1 x7 v20 σ18) fun _ σ21 => r9 (x7 + 1) σ21
def f_X0_passTick_J34 (k22 : Nat) (x3 : Int32) (r5 : Int32 → fh_S → Option (Unit × fh_S)) : Int32 → fh_S → Option (Unit × fh_S) := fun x25 σ26 => (fh_st σ26 k22 x3 x25).bind fun σ27 => r5 (x3 + 1) σ27
def f_X0_passTick_B2 (k1 : Nat) (r5 : Int32 → fh_S → Option (Unit × fh_S)) : Int32 → fh_S → Option (Unit × fh_S) := fun x3 σ4 => (fh_gi σ4 0 k1 9).bind fun v6 => if v6 ≤ x3 then fh_fx (ρ := Int32 → fh_S → Option (Unit × fh_S)) (fun _ _ => none) (f_X0_passTick_B43 k1) fh_fu ((0 : Int32)) σ4 else (fh_gr 0 k1 7).bind fun k22 => (fh_gr 0 k1 4).bind fun k23 => (fh_ld σ4 k23 x3).bind fun v24 => fh_jn (f_X0_passTick_J34 k22 x3 r5) (fun j28 => if v24 = ((1 : Int32)) then j28 ((0 : Int32)) σ4 else fh_cb (f_X0_paceOf k1 x3 σ4) fun r30 σ29 => j28 r30 σ29)
def f_X0_passTick (k1 : Nat) (σ2 : fh_S) : Option (Unit × fh_S) := fh_ob 0 k1 (fh_fx (ρ := Int32 → fh_S → Option (Unit × fh_S)) (fun _ _ => none) (f_X0_passTick_B2 k1) fh_fu ((0 : Int32)) σ2)
abbrev rm_X0_passTick : Room := { frames := 3, cells := 0, slots := 0, locals := 68 }
theorem pd_X0_passTick : yX0_passTick.cls ≠ "java/lang/invoke/MethodHandle" ∧ yX0_passTick.cls ≠ "java/lang/invoke/VarHandle" ∧ (parseMethodDescriptor yX0_passTick.desc).map (fun d => d.parameters.length) = some 0 := by decide +kernel
theorem dX0_passTick_0 : decode cX0_passTick 0 = .ok (.iconst 0, 1) := by decide +kernel
theorem dX0_passTick_1 : decode cX0_passTick 1 = .ok (.istore_n 1, 1) := by decide +kernel
theorem dX0_passTick_2 : decode cX0_passTick 2 = .ok (.iload_n 1, 1) := by decide +kernel
theorem dX0_passTick_3 : decode cX0_passTick 3 = .ok (.aload_n 0, 1) := by decide +kernel
theorem dX0_passTick_4 : decode cX0_passTick 4 = .ok (.getfield 39, 3) := by decide +kernel
theorem dX0_passTick_7 : decode cX0_passTick 7 = .ok (.if_icmp .ge 34, 3) := by decide +kernel
theorem dX0_passTick_10 : decode cX0_passTick 10 = .ok (.aload_n 0, 1) := by decide +kernel
theorem dX0_passTick_11 : decode cX0_passTick 11 = .ok (.getfield 33, 3) := by decide +kernel
theorem dX0_passTick_14 : decode cX0_passTick 14 = .ok (.iload_n 1, 1) := by decide +kernel
theorem dX0_passTick_15 : decode cX0_passTick 15 = .ok (.aload_n 0, 1) := by decide +kernel
theorem dX0_passTick_16 : decode cX0_passTick 16 = .ok (.getfield 24, 3) := by decide +kernel
theorem dX0_passTick_19 : decode cX0_passTick 19 = .ok (.iload_n 1, 1) := by decide +kernel
theorem dX0_passTick_20 : decode cX0_passTick 20 = .ok (.iaload, 1) := by decide +kernel
theorem dX0_passTick_21 : decode cX0_passTick 21 = .ok (.iconst 1, 1) := by decide +kernel
theorem dX0_passTick_22 : decode cX0_passTick 22 = .ok (.if_icmp .ne 7, 3) := by decide +kernel
theorem dX0_passTick_25 : decode cX0_passTick 25 = .ok (.iconst 0, 1) := by decide +kernel
theorem dX0_passTick_26 : decode cX0_passTick 26 = .ok (.goto 8, 3) := by decide +kernel
theorem dX0_passTick_29 : decode cX0_passTick 29 = .ok (.aload_n 0, 1) := by decide +kernel
theorem dX0_passTick_30 : decode cX0_passTick 30 = .ok (.iload_n 1, 1) := by decide +kernel
theorem dX0_passTick_31 : decode cX0_passTick 31 = .ok (.invokevirtual 92, 3) := by decide +kernel
theorem dX0_passTick_34 : decode cX0_passTick 34 = .ok (.iastore, 1) := by decide +kernel
theorem dX0_passTick_35 : decode cX0_passTick 35 = .ok (.iinc 1 1, 3) := by decide +kernel
theorem dX0_passTick_38 : decode cX0_passTick 38 = .ok (.goto (-36), 3) := by decide +kernel
theorem dX0_passTick_41 : decode cX0_passTick 41 = .ok (.iconst 0, 1) := by decide +kernel
theorem dX0_passTick_42 : decode cX0_passTick 42 = .ok (.istore_n 1, 1) := by decide +kernel
theorem dX0_passTick_43 : decode cX0_passTick 43 = .ok (.iload_n 1, 1) := by decide +kernel
theorem dX0_passTick_44 : decode cX0_passTick 44 = .ok (.aload_n 0, 1) := by decide +kernel
theorem dX0_passTick_45 : decode cX0_passTick 45 = .ok (.getfield 39, 3) := by decide +kernel
theorem dX0_passTick_48 : decode cX0_passTick 48 = .ok (.if_icmp .ge 32, 3) := by decide +kernel
theorem dX0_passTick_51 : decode cX0_passTick 51 = .ok (.aload_n 0, 1) := by decide +kernel
theorem dX0_passTick_52 : decode cX0_passTick 52 = .ok (.getfield 21, 3) := by decide +kernel
theorem dX0_passTick_55 : decode cX0_passTick 55 = .ok (.iload_n 1, 1) := by decide +kernel
theorem dX0_passTick_56 : decode cX0_passTick 56 = .ok (.aload_n 0, 1) := by decide +kernel
theorem dX0_passTick_57 : decode cX0_passTick 57 = .ok (.getfield 33, 3) := by decide +kernel
theorem dX0_passTick_60 : decode cX0_passTick 60 = .ok (.iload_n 1, 1) := by decide +kernel
theorem dX0_passTick_61 : decode cX0_passTick 61 = .ok (.iaload, 1) := by decide +kernel
theorem dX0_passTick_62 : decode cX0_passTick 62 = .ok (.iastore, 1) := by decide +kernel
theorem dX0_passTick_63 : decode cX0_passTick 63 = .ok (.aload_n 0, 1) := by decide +kernel
theorem dX0_passTick_64 : decode cX0_passTick 64 = .ok (.iload_n 1, 1) := by decide +kernel
theorem dX0_passTick_65 : decode cX0_passTick 65 = .ok (.aload_n 0, 1) := by decide +kernel
theorem dX0_passTick_66 : decode cX0_passTick 66 = .ok (.getfield 33, 3) := by decide +kernel
theorem dX0_passTick_69 : decode cX0_passTick 69 = .ok (.iload_n 1, 1) := by decide +kernel
theorem dX0_passTick_70 : decode cX0_passTick 70 = .ok (.iaload, 1) := by decide +kernel
theorem dX0_passTick_71 : decode cX0_passTick 71 = .ok (.invokevirtual 95, 3) := by decide +kernel
theorem dX0_passTick_74 : decode cX0_passTick 74 = .ok (.iinc 1 1, 3) := by decide +kernel
theorem dX0_passTick_77 : decode cX0_passTick 77 = .ok (.goto (-34), 3) := by decide +kernel
theorem dX0_passTick_80 : decode cX0_passTick 80 = .ok (.aload_n 0, 1) := by decide +kernel
theorem dX0_passTick_81 : decode cX0_passTick 81 = .ok (.aload_n 0, 1) := by decide +kernel
theorem dX0_passTick_82 : decode cX0_passTick 82 = .ok (.getfield 43, 3) := by decide +kernel
theorem dX0_passTick_85 : decode cX0_passTick 85 = .ok (.iconst 1, 1) := by decide +kernel
theorem dX0_passTick_86 : decode cX0_passTick 86 = .ok (.iadd, 1) := by decide +kernel
theorem dX0_passTick_87 : decode cX0_passTick 87 = .ok (.ldc 99, 2) := by decide +kernel
theorem dX0_passTick_89 : decode cX0_passTick 89 = .ok (.invokestatic 55, 3) := by decide +kernel
theorem dX0_passTick_92 : decode cX0_passTick 92 = .ok (.putfield 43, 3) := by decide +kernel
theorem dX0_passTick_95 : decode cX0_passTick 95 = .ok (.return_, 1) := by decide +kernel
set_option maxHeartbeats 4000000 in
set_option maxRecDepth 100000 in
theorem g_X0_passTick {E : fh_E} {M : fh_M} (C : fh_Cx E M cX0_passTick 2 RX0 (none) rm_X0_passTick) (Hr : fh_Rt E M) (k1 : Nat) (σ2 : fh_S) : fh_Go E M 2 fh_vU 0 [(0, .ref (fh_ad E k1))] [] σ2 (f_X0_passTick k1 σ2) := by
  have hok := fh_cok C
  refine go_ob ?_
  refine go_iconst C (0 : Int32) dX0_passTick_0 rfl ?_
  refine go_istore_n C [(1, .int ((0 : Int32))), (0, .ref (fh_ad E k1))] rfl rfl (by decide) dX0_passTick_1 ?_
  refine go_lv [1, 0] (lv' := [(0, .ref (fh_ad E k1)), (1, .int ((0 : Int32)))]) rfl ?_
  refine go_fx (fun (r5 : Int32 → fh_S → Option (Unit × fh_S)) => ∀ (x3 : Int32) (σ4 : fh_S), fh_Go E M 2 fh_vU 2 [(0, .ref (fh_ad E k1)), (1, .int x3)] [] σ4 (r5 x3 σ4)) ?_ ?_ fh_fu ((0 : Int32)) σ2
  · intro x3 σ4
    exact go_none
  · intro r5 hr5 x3 σ4
    refine go_iload_n C 1 rfl rfl dX0_passTick_2 ?_
    refine go_aload_n C 0 rfl rfl dX0_passTick_3 ?_
    refine go_gi (ci := 0) (j := 9) C fh_in0 rfl (by decide) rfl q_46 dX0_passTick_4 (fun v6 => ?_)
    refine go_icmp_ge (tgt := 41) C dX0_passTick_7 rfl (fun _ => ?_) (fun _ => ?_)
    · refine go_iconst C (0 : Int32) dX0_passTick_41 rfl ?_
      refine go_istore_n C [(1, .int ((0 : Int32))), (0, .ref (fh_ad E k1))] rfl rfl (by decide) dX0_passTick_42 ?_
      refine go_lv [1, 0] (lv' := [(0, .ref (fh_ad E k1)), (1, .int ((0 : Int32)))]) rfl ?_
      refine go_fx (fun (r9 : Int32 → fh_S → Option (Unit × fh_S)) => ∀ (x7 : Int32) (σ8 : fh_S), fh_Go E M 2 fh_vU 43 [(0, .ref (fh_ad E k1)), (1, .int x7)] [] σ8 (r9 x7 σ8)) ?_ ?_ fh_fu ((0 : Int32)) σ4
      · intro x7 σ8
        exact go_none
      · intro r9 hr9 x7 σ8
        refine go_iload_n C 1 rfl rfl dX0_passTick_43 ?_
        refine go_aload_n C 0 rfl rfl dX0_passTick_44 ?_
        refine go_gi (ci := 0) (j := 9) C fh_in0 rfl (by decide) rfl q_46 dX0_passTick_45 (fun v10 => ?_)
        refine go_icmp_ge (tgt := 80) C dX0_passTick_48 rfl (fun _ => ?_) (fun _ => ?_)
        · refine go_aload_n C 0 rfl rfl dX0_passTick_80 ?_
          refine go_aload_n C 0 rfl rfl dX0_passTick_81 ?_
          refine go_gi (ci := 0) (j := 10) C fh_in0 rfl (by decide) rfl q_49 dX0_passTick_82 (fun v11 => ?_)
          refine go_iconst C (1 : Int32) dX0_passTick_85 rfl ?_
          refine go_iadd C dX0_passTick_86 ?_
          refine go_ldc C q_277 dX0_passTick_87 ?_
          refine go_callSI C (st := [.ref (fh_ad E k1)]) [.int (v11 + ((1 : Int32))), .int ((99999 : Int32))] (m_J9_min_7cf53 E _ hok (v11 + ((1 : Int32))) ((99999 : Int32)) σ8) rfl ⟨q_189, q_190, q_7, q_191⟩ pd_J9_min_7cf53 rfl ⟨⟨Nat.le_of_ble_eq_true rfl, Nat.le_of_ble_eq_true rfl⟩, rfl, rfl⟩ (Nat.le_of_ble_eq_true rfl) dX0_passTick_89 (fun r13 σ12 => ?_)
          refine go_pf (ci := 0) (j := 10) C tyX0 tyX0_ok nmX0 fh_in0 rfl (by decide) rfl q_49 rfl rfl dX0_passTick_92 (fun σ14 => ?_)
          exact go_vret C Hr rfl dX0_passTick_95
        · refine go_aload_n C 0 rfl rfl dX0_passTick_51 ?_
          refine go_gr (ci := 0) (j := 3) C fh_in0 rfl (by decide) rfl q_36 dX0_passTick_52 (fun k15 => ?_)
          refine go_iload_n C 1 rfl rfl dX0_passTick_55 ?_
          refine go_aload_n C 0 rfl rfl dX0_passTick_56 ?_
          refine go_gr (ci := 0) (j := 7) C fh_in0 rfl (by decide) rfl q_44 dX0_passTick_57 (fun k16 => ?_)
          refine go_iload_n C 1 rfl rfl dX0_passTick_60 ?_
          refine go_iald C dX0_passTick_61 (fun v17 => ?_)
          refine go_iast C dX0_passTick_62 (fun σ18 => ?_)
          refine go_aload_n C 0 rfl rfl dX0_passTick_63 ?_
          refine go_iload_n C 1 rfl rfl dX0_passTick_64 ?_
          refine go_aload_n C 0 rfl rfl dX0_passTick_65 ?_
          refine go_gr (ci := 0) (j := 7) C fh_in0 rfl (by decide) rfl q_44 dX0_passTick_66 (fun k19 => ?_)
          refine go_iload_n C 1 rfl rfl dX0_passTick_69 ?_
          refine go_iald C dX0_passTick_70 (fun v20 => ?_)
          refine go_callVU C (st := []) [.int x7, .int v20] (m_X0_turn E _ hok k1 x7 v20 σ18) (fun _ h => fh_ob_ok h) rfl rfl ⟨q_276, q_240, q_241, q_2, q_242⟩ pd_X0_turn rfl ⟨⟨Nat.le_of_ble_eq_true rfl, Nat.le_of_ble_eq_true rfl⟩, rfl, rfl⟩ (Nat.le_of_ble_eq_true rfl) dX0_passTick_71 (fun _ σ21 => ?_)
          refine go_iinc C (x7 + 1) 1 [(1, .int (x7 + 1)), (0, .ref (fh_ad E k1))] rfl rfl rfl (by decide) dX0_passTick_74 ?_
          refine go_goto C 43 dX0_passTick_77 rfl ?_
          refine go_lv [1, 0] (lv' := [(0, .ref (fh_ad E k1)), (1, .int (x7 + 1))]) rfl ?_
          exact hr9 (x7 + 1) σ21
    · refine go_aload_n C 0 rfl rfl dX0_passTick_10 ?_
      refine go_gr (ci := 0) (j := 7) C fh_in0 rfl (by decide) rfl q_44 dX0_passTick_11 (fun k22 => ?_)
      refine go_iload_n C 1 rfl rfl dX0_passTick_14 ?_
      refine go_aload_n C 0 rfl rfl dX0_passTick_15 ?_
      refine go_gr (ci := 0) (j := 4) C fh_in0 rfl (by decide) rfl q_39 dX0_passTick_16 (fun k23 => ?_)
      refine go_iload_n C 1 rfl rfl dX0_passTick_19 ?_
      refine go_iald C dX0_passTick_20 (fun v24 => ?_)
      refine go_iconst C (1 : Int32) dX0_passTick_21 rfl ?_
      refine go_jn (fun (j28 : Int32 → fh_S → Option (Unit × fh_S)) => ∀ (x25 : Int32) (σ26 : fh_S), fh_Go E M 2 fh_vU 34 [(0, .ref (fh_ad E k1)), (1, .int x3)] [.int x25, .int x3, .ref (fh_ad E k22)] σ26 (j28 x25 σ26)) ?_ (fun j28 hj28 => ?_)
      · intro x25 σ26
        refine go_iast C dX0_passTick_34 (fun σ27 => ?_)
        refine go_iinc C (x3 + 1) 1 [(1, .int (x3 + 1)), (0, .ref (fh_ad E k1))] rfl rfl rfl (by decide) dX0_passTick_35 ?_
        refine go_goto C 2 dX0_passTick_38 rfl ?_
        refine go_lv [1, 0] (lv' := [(0, .ref (fh_ad E k1)), (1, .int (x3 + 1))]) rfl ?_
        exact hr5 (x3 + 1) σ27
      refine go_icmp_ne (tgt := 29) C dX0_passTick_22 rfl (fun _ => ?_) (fun _ => ?_)
      · refine go_aload_n C 0 rfl rfl dX0_passTick_29 ?_
        refine go_iload_n C 1 rfl rfl dX0_passTick_30 ?_
        refine go_callVI C (st := [.int x3, .ref (fh_ad E k22)]) [.int x3] (m_X0_paceOf E _ hok k1 x3 σ4) (fun _ h => fh_ob_ok h) rfl rfl ⟨q_275, q_201, q_202, q_2, q_203⟩ pd_X0_paceOf rfl ⟨⟨Nat.le_of_ble_eq_true rfl, Nat.le_of_ble_eq_true rfl⟩, rfl, rfl⟩ (Nat.le_of_ble_eq_true rfl) dX0_passTick_31 (fun r30 σ29 => ?_)
        exact hj28 r30 σ29
      · refine go_iconst C (0 : Int32) dX0_passTick_25 rfl ?_
        refine go_goto C 34 dX0_passTick_26 rfl ?_
        exact hj28 ((0 : Int32)) σ4
theorem m_X0_passTick (E : fh_E) (l : Launch) (hok : fh_ok E) (k1 : Nat) (σ2 : fh_S) : fh_Met E l yX0_passTick cX0_passTick 2 (none) rm_X0_passTick fh_vU [.ref (fh_ad E k1)] σ2 (f_X0_passTick k1 σ2) := fh_met hok (by decide +kernel) (Nat.le_of_ble_eq_true rfl) (fun M _ C Hr => g_X0_passTick C Hr k1 σ2)
def f_X0_passTicks_B2 (a2 : Int32) (k1 : Nat) (r6 : Int32 → fh_S → Option (Unit × fh_S)) : Int32 → fh_S → Option (Unit × fh_S) := fun x4 σ5 => if a2 ≤ x4 then some ((), σ5) else fh_cb (f_X0_passTick k1 σ5) fun _ σ7 => r6 (x4 + 1) σ7
def f_X0_passTicks (k1 : Nat) (a2 : Int32) (σ3 : fh_S) : Option (Unit × fh_S) := fh_ob 0 k1 (fh_fx (ρ := Int32 → fh_S → Option (Unit × fh_S)) (fun _ _ => none) (f_X0_passTicks_B2 a2 k1) fh_fu ((0 : Int32)) σ3)
abbrev rm_X0_passTicks : Room := { frames := 4, cells := 0, slots := 0, locals := 89 }
theorem pd_X0_passTicks : yX0_passTicks.cls ≠ "java/lang/invoke/MethodHandle" ∧ yX0_passTicks.cls ≠ "java/lang/invoke/VarHandle" ∧ (parseMethodDescriptor yX0_passTicks.desc).map (fun d => d.parameters.length) = some 1 := by decide +kernel
theorem dX0_passTicks_0 : decode cX0_passTicks 0 = .ok (.iconst 0, 1) := by decide +kernel
theorem dX0_passTicks_1 : decode cX0_passTicks 1 = .ok (.istore_n 2, 1) := by decide +kernel
theorem dX0_passTicks_2 : decode cX0_passTicks 2 = .ok (.iload_n 2, 1) := by decide +kernel
theorem dX0_passTicks_3 : decode cX0_passTicks 3 = .ok (.iload_n 1, 1) := by decide +kernel
theorem dX0_passTicks_4 : decode cX0_passTicks 4 = .ok (.if_icmp .ge 13, 3) := by decide +kernel
theorem dX0_passTicks_7 : decode cX0_passTicks 7 = .ok (.aload_n 0, 1) := by decide +kernel
theorem dX0_passTicks_8 : decode cX0_passTicks 8 = .ok (.invokevirtual 100, 3) := by decide +kernel
theorem dX0_passTicks_11 : decode cX0_passTicks 11 = .ok (.iinc 2 1, 3) := by decide +kernel
theorem dX0_passTicks_14 : decode cX0_passTicks 14 = .ok (.goto (-12), 3) := by decide +kernel
theorem dX0_passTicks_17 : decode cX0_passTicks 17 = .ok (.return_, 1) := by decide +kernel
set_option maxHeartbeats 4000000 in
set_option maxRecDepth 100000 in
theorem g_X0_passTicks {E : fh_E} {M : fh_M} (C : fh_Cx E M cX0_passTicks 3 RX0 (none) rm_X0_passTicks) (Hr : fh_Rt E M) (k1 : Nat) (a2 : Int32) (σ3 : fh_S) : fh_Go E M 3 fh_vU 0 [(0, .ref (fh_ad E k1)), (1, .int a2)] [] σ3 (f_X0_passTicks k1 a2 σ3) := by
  have hok := fh_cok C
  refine go_ob ?_
  refine go_iconst C (0 : Int32) dX0_passTicks_0 rfl ?_
  refine go_istore_n C [(2, .int ((0 : Int32))), (0, .ref (fh_ad E k1)), (1, .int a2)] rfl rfl (by decide) dX0_passTicks_1 ?_
  refine go_lv [1, 2, 0] (lv' := [(0, .ref (fh_ad E k1)), (1, .int a2), (2, .int ((0 : Int32)))]) rfl ?_
  refine go_fx (fun (r6 : Int32 → fh_S → Option (Unit × fh_S)) => ∀ (x4 : Int32) (σ5 : fh_S), fh_Go E M 3 fh_vU 2 [(0, .ref (fh_ad E k1)), (1, .int a2), (2, .int x4)] [] σ5 (r6 x4 σ5)) ?_ ?_ fh_fu ((0 : Int32)) σ3
  · intro x4 σ5
    exact go_none
  · intro r6 hr6 x4 σ5
    refine go_iload_n C 2 rfl rfl dX0_passTicks_2 ?_
    refine go_iload_n C 1 rfl rfl dX0_passTicks_3 ?_
    refine go_icmp_ge (tgt := 17) C dX0_passTicks_4 rfl (fun _ => ?_) (fun _ => ?_)
    · exact go_vret C Hr rfl dX0_passTicks_17
    · refine go_aload_n C 0 rfl rfl dX0_passTicks_7 ?_
      refine go_callVU C (st := []) [] (m_X0_passTick E _ hok k1 σ5) (fun _ h => fh_ob_ok h) rfl rfl ⟨q_271, q_272, q_273, q_2, q_274⟩ pd_X0_passTick rfl ⟨⟨Nat.le_of_ble_eq_true rfl, Nat.le_of_ble_eq_true rfl⟩, rfl, rfl⟩ (Nat.le_of_ble_eq_true rfl) dX0_passTicks_8 (fun _ σ7 => ?_)
      refine go_iinc C (x4 + 1) 2 [(2, .int (x4 + 1)), (0, .ref (fh_ad E k1)), (1, .int a2)] rfl rfl rfl (by decide) dX0_passTicks_11 ?_
      refine go_goto C 2 dX0_passTicks_14 rfl ?_
      refine go_lv [1, 2, 0] (lv' := [(0, .ref (fh_ad E k1)), (1, .int a2), (2, .int (x4 + 1))]) rfl ?_
      exact hr6 (x4 + 1) σ7
theorem m_X0_passTicks (E : fh_E) (l : Launch) (hok : fh_ok E) (k1 : Nat) (a2 : Int32) (σ3 : fh_S) : fh_Met E l yX0_passTicks cX0_passTicks 3 (none) rm_X0_passTicks fh_vU [.ref (fh_ad E k1), .int a2] σ3 (f_X0_passTicks k1 a2 σ3) := fh_met hok (by decide +kernel) (Nat.le_of_ble_eq_true rfl) (fun M _ C Hr => g_X0_passTicks C Hr k1 a2 σ3)
def f_X0_goesAsMarked_B2 (k1 : Nat) (r5 : Int32 → fh_S → Option (Int32 × fh_S)) : Int32 → fh_S → Option (Int32 × fh_S) := fun x3 σ4 => (fh_gi σ4 0 k1 9).bind fun v6 => if v6 ≤ x3 then fh_rz ((1 : Int32)) σ4 else (fh_gr 0 k1 3).bind fun k7 => (fh_ld σ4 k7 x3).bind fun v8 => (fh_gr 0 k1 8).bind fun k9 => (fh_ld σ4 k9 x3).bind fun v10 => if v8 = v10 then r5 (x3 + 1) σ4 else fh_rz ((0 : Int32)) σ4
def f_X0_goesAsMarked (k1 : Nat) (σ2 : fh_S) : Option (Int32 × fh_S) := fh_ob 0 k1 (fh_fx (ρ := Int32 → fh_S → Option (Int32 × fh_S)) (fun _ _ => none) (f_X0_goesAsMarked_B2 k1) fh_fu ((0 : Int32)) σ2)
abbrev rm_X0_goesAsMarked : Room := { frames := 0, cells := 0, slots := 0, locals := 0 }
theorem pd_X0_goesAsMarked : yX0_goesAsMarked.cls ≠ "java/lang/invoke/MethodHandle" ∧ yX0_goesAsMarked.cls ≠ "java/lang/invoke/VarHandle" ∧ (parseMethodDescriptor yX0_goesAsMarked.desc).map (fun d => d.parameters.length) = some 0 := by decide +kernel
theorem dX0_goesAsMarked_0 : decode cX0_goesAsMarked 0 = .ok (.iconst 0, 1) := by decide +kernel
theorem dX0_goesAsMarked_1 : decode cX0_goesAsMarked 1 = .ok (.istore_n 1, 1) := by decide +kernel
theorem dX0_goesAsMarked_2 : decode cX0_goesAsMarked 2 = .ok (.iload_n 1, 1) := by decide +kernel
theorem dX0_goesAsMarked_3 : decode cX0_goesAsMarked 3 = .ok (.aload_n 0, 1) := by decide +kernel
theorem dX0_goesAsMarked_4 : decode cX0_goesAsMarked 4 = .ok (.getfield 39, 3) := by decide +kernel
theorem dX0_goesAsMarked_7 : decode cX0_goesAsMarked 7 = .ok (.if_icmp .ge 26, 3) := by decide +kernel
theorem dX0_goesAsMarked_10 : decode cX0_goesAsMarked 10 = .ok (.aload_n 0, 1) := by decide +kernel
theorem dX0_goesAsMarked_11 : decode cX0_goesAsMarked 11 = .ok (.getfield 21, 3) := by decide +kernel
theorem dX0_goesAsMarked_14 : decode cX0_goesAsMarked 14 = .ok (.iload_n 1, 1) := by decide +kernel
theorem dX0_goesAsMarked_15 : decode cX0_goesAsMarked 15 = .ok (.iaload, 1) := by decide +kernel
theorem dX0_goesAsMarked_16 : decode cX0_goesAsMarked 16 = .ok (.aload_n 0, 1) := by decide +kernel
theorem dX0_goesAsMarked_17 : decode cX0_goesAsMarked 17 = .ok (.getfield 36, 3) := by decide +kernel
theorem dX0_goesAsMarked_20 : decode cX0_goesAsMarked 20 = .ok (.iload_n 1, 1) := by decide +kernel
theorem dX0_goesAsMarked_21 : decode cX0_goesAsMarked 21 = .ok (.iaload, 1) := by decide +kernel
theorem dX0_goesAsMarked_22 : decode cX0_goesAsMarked 22 = .ok (.if_icmp .eq 5, 3) := by decide +kernel
theorem dX0_goesAsMarked_25 : decode cX0_goesAsMarked 25 = .ok (.iconst 0, 1) := by decide +kernel
theorem dX0_goesAsMarked_26 : decode cX0_goesAsMarked 26 = .ok (.ireturn, 1) := by decide +kernel
theorem dX0_goesAsMarked_27 : decode cX0_goesAsMarked 27 = .ok (.iinc 1 1, 3) := by decide +kernel
theorem dX0_goesAsMarked_30 : decode cX0_goesAsMarked 30 = .ok (.goto (-28), 3) := by decide +kernel
theorem dX0_goesAsMarked_33 : decode cX0_goesAsMarked 33 = .ok (.iconst 1, 1) := by decide +kernel
theorem dX0_goesAsMarked_34 : decode cX0_goesAsMarked 34 = .ok (.ireturn, 1) := by decide +kernel
set_option maxHeartbeats 4000000 in
set_option maxRecDepth 100000 in
theorem g_X0_goesAsMarked {E : fh_E} {M : fh_M} (C : fh_Cx E M cX0_goesAsMarked 2 RX0 ((some FieldType.boolean)) rm_X0_goesAsMarked) (Hr : fh_Rt E M) (k1 : Nat) (σ2 : fh_S) : fh_Go E M 2 fh_vI 0 [(0, .ref (fh_ad E k1))] [] σ2 (f_X0_goesAsMarked k1 σ2) := by
  have hok := fh_cok C
  refine go_ob ?_
  refine go_iconst C (0 : Int32) dX0_goesAsMarked_0 rfl ?_
  refine go_istore_n C [(1, .int ((0 : Int32))), (0, .ref (fh_ad E k1))] rfl rfl (by decide) dX0_goesAsMarked_1 ?_
  refine go_lv [1, 0] (lv' := [(0, .ref (fh_ad E k1)), (1, .int ((0 : Int32)))]) rfl ?_
  refine go_fx (fun (r5 : Int32 → fh_S → Option (Int32 × fh_S)) => ∀ (x3 : Int32) (σ4 : fh_S), fh_Go E M 2 fh_vI 2 [(0, .ref (fh_ad E k1)), (1, .int x3)] [] σ4 (r5 x3 σ4)) ?_ ?_ fh_fu ((0 : Int32)) σ2
  · intro x3 σ4
    exact go_none
  · intro r5 hr5 x3 σ4
    refine go_iload_n C 1 rfl rfl dX0_goesAsMarked_2 ?_
    refine go_aload_n C 0 rfl rfl dX0_goesAsMarked_3 ?_
    refine go_gi (ci := 0) (j := 9) C fh_in0 rfl (by decide) rfl q_46 dX0_goesAsMarked_4 (fun v6 => ?_)
    refine go_icmp_ge (tgt := 33) C dX0_goesAsMarked_7 rfl (fun _ => ?_) (fun _ => ?_)
    · refine go_iconst C (1 : Int32) dX0_goesAsMarked_33 rfl ?_
      exact go_zret C Hr dX0_goesAsMarked_34
    · refine go_aload_n C 0 rfl rfl dX0_goesAsMarked_10 ?_
      refine go_gr (ci := 0) (j := 3) C fh_in0 rfl (by decide) rfl q_36 dX0_goesAsMarked_11 (fun k7 => ?_)
      refine go_iload_n C 1 rfl rfl dX0_goesAsMarked_14 ?_
      refine go_iald C dX0_goesAsMarked_15 (fun v8 => ?_)
      refine go_aload_n C 0 rfl rfl dX0_goesAsMarked_16 ?_
      refine go_gr (ci := 0) (j := 8) C fh_in0 rfl (by decide) rfl q_45 dX0_goesAsMarked_17 (fun k9 => ?_)
      refine go_iload_n C 1 rfl rfl dX0_goesAsMarked_20 ?_
      refine go_iald C dX0_goesAsMarked_21 (fun v10 => ?_)
      refine go_icmp_eq (tgt := 27) C dX0_goesAsMarked_22 rfl (fun _ => ?_) (fun _ => ?_)
      · refine go_iinc C (x3 + 1) 1 [(1, .int (x3 + 1)), (0, .ref (fh_ad E k1))] rfl rfl rfl (by decide) dX0_goesAsMarked_27 ?_
        refine go_goto C 2 dX0_goesAsMarked_30 rfl ?_
        refine go_lv [1, 0] (lv' := [(0, .ref (fh_ad E k1)), (1, .int (x3 + 1))]) rfl ?_
        exact hr5 (x3 + 1) σ4
      · refine go_iconst C (0 : Int32) dX0_goesAsMarked_25 rfl ?_
        exact go_zret C Hr dX0_goesAsMarked_26
theorem m_X0_goesAsMarked (E : fh_E) (l : Launch) (hok : fh_ok E) (k1 : Nat) (σ2 : fh_S) : fh_Met E l yX0_goesAsMarked cX0_goesAsMarked 2 ((some FieldType.boolean)) rm_X0_goesAsMarked fh_vI [.ref (fh_ad E k1)] σ2 (f_X0_goesAsMarked k1 σ2) := fh_met hok (by decide +kernel) (Nat.le_of_ble_eq_true rfl) (fun M _ C Hr => g_X0_goesAsMarked C Hr k1 σ2)
def f_X0_markGoings (k1 : Nat) (σ2 : fh_S) : Option (Unit × fh_S) := fh_ob 0 k1 ((fh_gr 0 k1 3).bind fun k3 => (fh_gr 0 k1 8).bind fun k4 => (fh_cp σ2 k3 ((0 : Int32)) k4 ((0 : Int32)) ((10 : Int32))).bind fun σ5 => some ((), σ5))
abbrev rm_X0_markGoings : Room := { frames := 1, cells := 0, slots := 0, locals := 60 }
theorem pd_X0_markGoings : yX0_markGoings.cls ≠ "java/lang/invoke/MethodHandle" ∧ yX0_markGoings.cls ≠ "java/lang/invoke/VarHandle" ∧ (parseMethodDescriptor yX0_markGoings.desc).map (fun d => d.parameters.length) = some 0 := by decide +kernel
theorem dX0_markGoings_0 : decode cX0_markGoings 0 = .ok (.aload_n 0, 1) := by decide +kernel
theorem dX0_markGoings_1 : decode cX0_markGoings 1 = .ok (.getfield 21, 3) := by decide +kernel
theorem dX0_markGoings_4 : decode cX0_markGoings 4 = .ok (.iconst 0, 1) := by decide +kernel
theorem dX0_markGoings_5 : decode cX0_markGoings 5 = .ok (.aload_n 0, 1) := by decide +kernel
theorem dX0_markGoings_6 : decode cX0_markGoings 6 = .ok (.getfield 36, 3) := by decide +kernel
theorem dX0_markGoings_9 : decode cX0_markGoings 9 = .ok (.iconst 0, 1) := by decide +kernel
theorem dX0_markGoings_10 : decode cX0_markGoings 10 = .ok (.bipush 10, 2) := by decide +kernel
theorem dX0_markGoings_12 : decode cX0_markGoings 12 = .ok (.invokestatic 49, 3) := by decide +kernel
theorem dX0_markGoings_15 : decode cX0_markGoings 15 = .ok (.return_, 1) := by decide +kernel
set_option maxHeartbeats 4000000 in
set_option maxRecDepth 100000 in
theorem g_X0_markGoings {E : fh_E} {M : fh_M} (C : fh_Cx E M cX0_markGoings 1 RX0 (none) rm_X0_markGoings) (Hr : fh_Rt E M) (k1 : Nat) (σ2 : fh_S) : fh_Go E M 1 fh_vU 0 [(0, .ref (fh_ad E k1))] [] σ2 (f_X0_markGoings k1 σ2) := by
  have hok := fh_cok C
  refine go_ob ?_
  refine go_aload_n C 0 rfl rfl dX0_markGoings_0 ?_
  refine go_gr (ci := 0) (j := 3) C fh_in0 rfl (by decide) rfl q_36 dX0_markGoings_1 (fun k3 => ?_)
  refine go_iconst C (0 : Int32) dX0_markGoings_4 rfl ?_
  refine go_aload_n C 0 rfl rfl dX0_markGoings_5 ?_
  refine go_gr (ci := 0) (j := 8) C fh_in0 rfl (by decide) rfl q_45 dX0_markGoings_6 (fun k4 => ?_)
  refine go_iconst C (0 : Int32) dX0_markGoings_9 rfl ?_
  refine go_bipush C (10 : Int32) dX0_markGoings_10 rfl ?_
  refine go_cp C ⟨q_382, q_384, q_383, q_9⟩ ⟨Nat.le_of_ble_eq_true rfl, Nat.le_of_ble_eq_true rfl⟩ dX0_markGoings_12 (fun σ5 => ?_)
  exact go_vret C Hr rfl dX0_markGoings_15
theorem m_X0_markGoings (E : fh_E) (l : Launch) (hok : fh_ok E) (k1 : Nat) (σ2 : fh_S) : fh_Met E l yX0_markGoings cX0_markGoings 1 (none) rm_X0_markGoings fh_vU [.ref (fh_ad E k1)] σ2 (f_X0_markGoings k1 σ2) := fh_met hok (by decide +kernel) (Nat.le_of_ble_eq_true rfl) (fun M _ C Hr => g_X0_markGoings C Hr k1 σ2)
def f_X0_passTicksForGoings_J44 (a2 : Int32) (k1 : Nat) : fh_S → Option (Unit × fh_S) := fun σ8 => if (a2 - a2 / ((2 : Int32)) * ((2 : Int32))) = ((1 : Int32)) then fh_cb (f_X0_passTick k1 σ8) fun _ σ9 => some ((), σ9) else some ((), σ8)
def f_X0_passTicksForGoings_J37 (r7 : Int32 → Int32 → fh_S → Option (Unit × fh_S)) (x5 : Int32) : Int32 → fh_S → Option (Unit × fh_S) := fun x16 σ17 => r7 x16 (x5 + (-2)) σ17
def f_X0_passTicksForGoings_B4 (a2 : Int32) (k1 : Nat) (r7 : Int32 → Int32 → fh_S → Option (Unit × fh_S)) : Int32 → Int32 → fh_S → Option (Unit × fh_S) := fun x4 x5 σ6 => fh_jn (f_X0_passTicksForGoings_J44 a2 k1) (fun j10 => if x5 < ((2 : Int32)) then j10 σ6 else if x4 = 0 then j10 σ6 else fh_cb (f_X0_markGoings k1 σ6) fun _ σ11 => fh_cb (f_X0_passTick k1 σ11) fun _ σ12 => fh_cb (f_X0_passTick k1 σ12) fun _ σ13 => fh_cb (f_X0_goesAsMarked k1 σ13) fun r15 σ14 => fh_jn (f_X0_passTicksForGoings_J37 r7 x5) (fun j18 => if r15 = 0 then j18 ((1 : Int32)) σ14 else j18 ((0 : Int32)) σ14))
def f_X0_passTicksForGoings (k1 : Nat) (a2 : Int32) (σ3 : fh_S) : Option (Unit × fh_S) := fh_ob 0 k1 (fh_fx (ρ := Int32 → Int32 → fh_S → Option (Unit × fh_S)) (fun _ _ _ => none) (f_X0_passTicksForGoings_B4 a2 k1) fh_fu ((1 : Int32)) a2 σ3)
abbrev rm_X0_passTicksForGoings : Room := { frames := 4, cells := 0, slots := 0, locals := 89 }
theorem pd_X0_passTicksForGoings : yX0_passTicksForGoings.cls ≠ "java/lang/invoke/MethodHandle" ∧ yX0_passTicksForGoings.cls ≠ "java/lang/invoke/VarHandle" ∧ (parseMethodDescriptor yX0_passTicksForGoings.desc).map (fun d => d.parameters.length) = some 1 := by decide +kernel
theorem dX0_passTicksForGoings_0 : decode cX0_passTicksForGoings 0 = .ok (.iconst 1, 1) := by decide +kernel
theorem dX0_passTicksForGoings_1 : decode cX0_passTicksForGoings 1 = .ok (.istore_n 2, 1) := by decide +kernel
theorem dX0_passTicksForGoings_2 : decode cX0_passTicksForGoings 2 = .ok (.iload_n 1, 1) := by decide +kernel
theorem dX0_passTicksForGoings_3 : decode cX0_passTicksForGoings 3 = .ok (.istore_n 3, 1) := by decide +kernel
theorem dX0_passTicksForGoings_4 : decode cX0_passTicksForGoings 4 = .ok (.iload_n 3, 1) := by decide +kernel
theorem dX0_passTicksForGoings_5 : decode cX0_passTicksForGoings 5 = .ok (.iconst 2, 1) := by decide +kernel
theorem dX0_passTicksForGoings_6 : decode cX0_passTicksForGoings 6 = .ok (.if_icmp .lt 38, 3) := by decide +kernel
theorem dX0_passTicksForGoings_9 : decode cX0_passTicksForGoings 9 = .ok (.iload_n 2, 1) := by decide +kernel
theorem dX0_passTicksForGoings_10 : decode cX0_passTicksForGoings 10 = .ok (.ifCond .eq 34, 3) := by decide +kernel
theorem dX0_passTicksForGoings_13 : decode cX0_passTicksForGoings 13 = .ok (.aload_n 0, 1) := by decide +kernel
theorem dX0_passTicksForGoings_14 : decode cX0_passTicksForGoings 14 = .ok (.invokevirtual 103, 3) := by decide +kernel
theorem dX0_passTicksForGoings_17 : decode cX0_passTicksForGoings 17 = .ok (.aload_n 0, 1) := by decide +kernel
theorem dX0_passTicksForGoings_18 : decode cX0_passTicksForGoings 18 = .ok (.invokevirtual 100, 3) := by decide +kernel
theorem dX0_passTicksForGoings_21 : decode cX0_passTicksForGoings 21 = .ok (.aload_n 0, 1) := by decide +kernel
theorem dX0_passTicksForGoings_22 : decode cX0_passTicksForGoings 22 = .ok (.invokevirtual 100, 3) := by decide +kernel
theorem dX0_passTicksForGoings_25 : decode cX0_passTicksForGoings 25 = .ok (.aload_n 0, 1) := by decide +kernel
theorem dX0_passTicksForGoings_26 : decode cX0_passTicksForGoings 26 = .ok (.invokevirtual 106, 3) := by decide +kernel
theorem dX0_passTicksForGoings_29 : decode cX0_passTicksForGoings 29 = .ok (.ifCond .ne 7, 3) := by decide +kernel
theorem dX0_passTicksForGoings_32 : decode cX0_passTicksForGoings 32 = .ok (.iconst 1, 1) := by decide +kernel
theorem dX0_passTicksForGoings_33 : decode cX0_passTicksForGoings 33 = .ok (.goto 4, 3) := by decide +kernel
theorem dX0_passTicksForGoings_36 : decode cX0_passTicksForGoings 36 = .ok (.iconst 0, 1) := by decide +kernel
theorem dX0_passTicksForGoings_37 : decode cX0_passTicksForGoings 37 = .ok (.istore_n 2, 1) := by decide +kernel
theorem dX0_passTicksForGoings_38 : decode cX0_passTicksForGoings 38 = .ok (.iinc 3 (-2), 3) := by decide +kernel
theorem dX0_passTicksForGoings_41 : decode cX0_passTicksForGoings 41 = .ok (.goto (-37), 3) := by decide +kernel
theorem dX0_passTicksForGoings_44 : decode cX0_passTicksForGoings 44 = .ok (.iload_n 1, 1) := by decide +kernel
theorem dX0_passTicksForGoings_45 : decode cX0_passTicksForGoings 45 = .ok (.iconst 2, 1) := by decide +kernel
theorem dX0_passTicksForGoings_46 : decode cX0_passTicksForGoings 46 = .ok (.irem, 1) := by decide +kernel
theorem dX0_passTicksForGoings_47 : decode cX0_passTicksForGoings 47 = .ok (.iconst 1, 1) := by decide +kernel
theorem dX0_passTicksForGoings_48 : decode cX0_passTicksForGoings 48 = .ok (.if_icmp .ne 7, 3) := by decide +kernel
theorem dX0_passTicksForGoings_51 : decode cX0_passTicksForGoings 51 = .ok (.aload_n 0, 1) := by decide +kernel
theorem dX0_passTicksForGoings_52 : decode cX0_passTicksForGoings 52 = .ok (.invokevirtual 100, 3) := by decide +kernel
theorem dX0_passTicksForGoings_55 : decode cX0_passTicksForGoings 55 = .ok (.return_, 1) := by decide +kernel
set_option maxHeartbeats 4000000 in
set_option maxRecDepth 100000 in
theorem g_X0_passTicksForGoings {E : fh_E} {M : fh_M} (C : fh_Cx E M cX0_passTicksForGoings 4 RX0 (none) rm_X0_passTicksForGoings) (Hr : fh_Rt E M) (k1 : Nat) (a2 : Int32) (σ3 : fh_S) : fh_Go E M 4 fh_vU 0 [(0, .ref (fh_ad E k1)), (1, .int a2)] [] σ3 (f_X0_passTicksForGoings k1 a2 σ3) := by
  have hok := fh_cok C
  refine go_ob ?_
  refine go_iconst C (1 : Int32) dX0_passTicksForGoings_0 rfl ?_
  refine go_istore_n C [(2, .int ((1 : Int32))), (0, .ref (fh_ad E k1)), (1, .int a2)] rfl rfl (by decide) dX0_passTicksForGoings_1 ?_
  refine go_iload_n C 2 rfl rfl dX0_passTicksForGoings_2 ?_
  refine go_istore_n C [(3, .int a2), (2, .int ((1 : Int32))), (0, .ref (fh_ad E k1)), (1, .int a2)] rfl rfl (by decide) dX0_passTicksForGoings_3 ?_
  refine go_lv [2, 3, 1, 0] (lv' := [(0, .ref (fh_ad E k1)), (1, .int a2), (2, .int ((1 : Int32))), (3, .int a2)]) rfl ?_
  refine go_fx (fun (r7 : Int32 → Int32 → fh_S → Option (Unit × fh_S)) => ∀ (x4 : Int32) (x5 : Int32) (σ6 : fh_S), fh_Go E M 4 fh_vU 4 [(0, .ref (fh_ad E k1)), (1, .int a2), (2, .int x4), (3, .int x5)] [] σ6 (r7 x4 x5 σ6)) ?_ ?_ fh_fu ((1 : Int32)) a2 σ3
  · intro x4 x5 σ6
    exact go_none
  · intro r7 hr7 x4 x5 σ6
    refine go_iload_n C 3 rfl rfl dX0_passTicksForGoings_4 ?_
    refine go_iconst C (2 : Int32) dX0_passTicksForGoings_5 rfl ?_
    refine go_jn (fun (j10 : fh_S → Option (Unit × fh_S)) => ∀ (σ8 : fh_S), fh_Go E M 4 fh_vU 44 [(0, .ref (fh_ad E k1)), (1, .int a2)] [] σ8 (j10 σ8)) ?_ (fun j10 hj10 => ?_)
    · intro σ8
      refine go_iload_n C 1 rfl rfl dX0_passTicksForGoings_44 ?_
      refine go_iconst C (2 : Int32) dX0_passTicksForGoings_45 rfl ?_
      refine go_irem C dX0_passTicksForGoings_46 (by decide) ?_
      refine go_iconst C (1 : Int32) dX0_passTicksForGoings_47 rfl ?_
      refine go_icmp_ne (tgt := 55) C dX0_passTicksForGoings_48 rfl (fun _ => ?_) (fun _ => ?_)
      · exact go_vret C Hr rfl dX0_passTicksForGoings_55
      · refine go_aload_n C 0 rfl rfl dX0_passTicksForGoings_51 ?_
        refine go_callVU C (st := []) [] (m_X0_passTick E _ hok k1 σ8) (fun _ h => fh_ob_ok h) rfl rfl ⟨q_271, q_272, q_273, q_2, q_274⟩ pd_X0_passTick rfl ⟨⟨Nat.le_of_ble_eq_true rfl, Nat.le_of_ble_eq_true rfl⟩, rfl, rfl⟩ (Nat.le_of_ble_eq_true rfl) dX0_passTicksForGoings_52 (fun _ σ9 => ?_)
        exact go_vret C Hr rfl dX0_passTicksForGoings_55
    refine go_icmp_lt (tgt := 44) C dX0_passTicksForGoings_6 rfl (fun _ => ?_) (fun _ => ?_)
    · refine go_lv [0, 1] (lv' := [(0, .ref (fh_ad E k1)), (1, .int a2)]) rfl ?_
      exact hj10 σ6
    · refine go_iload_n C 2 rfl rfl dX0_passTicksForGoings_9 ?_
      refine go_if_eq (tgt := 44) C dX0_passTicksForGoings_10 rfl (fun _ => ?_) (fun _ => ?_)
      · refine go_lv [0, 1] (lv' := [(0, .ref (fh_ad E k1)), (1, .int a2)]) rfl ?_
        exact hj10 σ6
      · refine go_aload_n C 0 rfl rfl dX0_passTicksForGoings_13 ?_
        refine go_callVU C (st := []) [] (m_X0_markGoings E _ hok k1 σ6) (fun _ h => fh_ob_ok h) rfl rfl ⟨q_487, q_408, q_409, q_2, q_410⟩ pd_X0_markGoings rfl ⟨⟨Nat.le_of_ble_eq_true rfl, Nat.le_of_ble_eq_true rfl⟩, rfl, rfl⟩ (Nat.le_of_ble_eq_true rfl) dX0_passTicksForGoings_14 (fun _ σ11 => ?_)
        refine go_aload_n C 0 rfl rfl dX0_passTicksForGoings_17 ?_
        refine go_callVU C (st := []) [] (m_X0_passTick E _ hok k1 σ11) (fun _ h => fh_ob_ok h) rfl rfl ⟨q_271, q_272, q_273, q_2, q_274⟩ pd_X0_passTick rfl ⟨⟨Nat.le_of_ble_eq_true rfl, Nat.le_of_ble_eq_true rfl⟩, rfl, rfl⟩ (Nat.le_of_ble_eq_true rfl) dX0_passTicksForGoings_18 (fun _ σ12 => ?_)
        refine go_aload_n C 0 rfl rfl dX0_passTicksForGoings_21 ?_
        refine go_callVU C (st := []) [] (m_X0_passTick E _ hok k1 σ12) (fun _ h => fh_ob_ok h) rfl rfl ⟨q_271, q_272, q_273, q_2, q_274⟩ pd_X0_passTick rfl ⟨⟨Nat.le_of_ble_eq_true rfl, Nat.le_of_ble_eq_true rfl⟩, rfl, rfl⟩ (Nat.le_of_ble_eq_true rfl) dX0_passTicksForGoings_22 (fun _ σ13 => ?_)
        refine go_aload_n C 0 rfl rfl dX0_passTicksForGoings_25 ?_
        refine go_callVI C (st := []) [] (m_X0_goesAsMarked E _ hok k1 σ13) (fun _ h => fh_ob_ok h) rfl rfl ⟨q_488, q_412, q_413, q_2, q_414⟩ pd_X0_goesAsMarked rfl ⟨⟨Nat.le_of_ble_eq_true rfl, Nat.le_of_ble_eq_true rfl⟩, rfl, rfl⟩ (Nat.le_of_ble_eq_true rfl) dX0_passTicksForGoings_26 (fun r15 σ14 => ?_)
        refine go_jn (fun (j18 : Int32 → fh_S → Option (Unit × fh_S)) => ∀ (x16 : Int32) (σ17 : fh_S), fh_Go E M 4 fh_vU 37 [(0, .ref (fh_ad E k1)), (1, .int a2), (3, .int x5)] [.int x16] σ17 (j18 x16 σ17)) ?_ (fun j18 hj18 => ?_)
        · intro x16 σ17
          refine go_istore_n C [(2, .int x16), (0, .ref (fh_ad E k1)), (1, .int a2), (3, .int x5)] rfl rfl (by decide) dX0_passTicksForGoings_37 ?_
          refine go_iinc C (x5 + (-2)) 3 [(3, .int (x5 + (-2))), (2, .int x16), (0, .ref (fh_ad E k1)), (1, .int a2)] rfl (congrArg (fun z => x5 + z) (by decide : Int32.ofInt (-2) = (-2 : Int32))) rfl (by decide) dX0_passTicksForGoings_38 ?_
          refine go_goto C 4 dX0_passTicksForGoings_41 rfl ?_
          refine go_lv [2, 3, 1, 0] (lv' := [(0, .ref (fh_ad E k1)), (1, .int a2), (2, .int x16), (3, .int (x5 + (-2)))]) rfl ?_
          exact hr7 x16 (x5 + (-2)) σ17
        refine go_if_ne (tgt := 36) C dX0_passTicksForGoings_29 rfl (fun _ => ?_) (fun _ => ?_)
        · refine go_iconst C (0 : Int32) dX0_passTicksForGoings_36 rfl ?_
          refine go_lv [0, 1, 3] (lv' := [(0, .ref (fh_ad E k1)), (1, .int a2), (3, .int x5)]) rfl ?_
          exact hj18 ((0 : Int32)) σ14
        · refine go_iconst C (1 : Int32) dX0_passTicksForGoings_32 rfl ?_
          refine go_goto C 37 dX0_passTicksForGoings_33 rfl ?_
          refine go_lv [0, 1, 3] (lv' := [(0, .ref (fh_ad E k1)), (1, .int a2), (3, .int x5)]) rfl ?_
          exact hj18 ((1 : Int32)) σ14
theorem m_X0_passTicksForGoings (E : fh_E) (l : Launch) (hok : fh_ok E) (k1 : Nat) (a2 : Int32) (σ3 : fh_S) : fh_Met E l yX0_passTicksForGoings cX0_passTicksForGoings 4 (none) rm_X0_passTicksForGoings fh_vU [.ref (fh_ad E k1), .int a2] σ3 (f_X0_passTicksForGoings k1 a2 σ3) := fh_met hok (by decide +kernel) (Nat.le_of_ble_eq_true rfl) (fun M _ C Hr => g_X0_passTicksForGoings C Hr k1 a2 σ3)
def f_X0_setWhere_J29 (r8 : Int32 → Int32 → fh_S → Option (Int32 × fh_S)) (x6 : Int32) : Int32 → fh_S → Option (Int32 × fh_S) := fun x11 σ12 => r8 x11 (x6 + 1) σ12
def f_X0_setWhere_B5 (k1 : Nat) (k2 : Nat) (a3 : Int32) (r8 : Int32 → Int32 → fh_S → Option (Int32 × fh_S)) : Int32 → Int32 → fh_S → Option (Int32 × fh_S) := fun x5 x6 σ7 => (fh_gi σ7 0 k1 9).bind fun v9 => if v9 ≤ x6 then some (x5, σ7) else (fh_ld σ7 k2 x6).bind fun v10 => fh_jn (f_X0_setWhere_J29 r8 x6) (fun j13 => if v10 = a3 then j13 (x5 ||| (((1 : Int32)) <<< (x6 &&& 31))) σ7 else j13 x5 σ7)
def f_X0_setWhere (k1 : Nat) (k2 : Nat) (a3 : Int32) (σ4 : fh_S) : Option (Int32 × fh_S) := fh_ob 0 k1 (fh_fx (ρ := Int32 → Int32 → fh_S → Option (Int32 × fh_S)) (fun _ _ _ => none) (f_X0_setWhere_B5 k1 k2 a3) fh_fu ((0 : Int32)) ((0 : Int32)) σ4)
abbrev rm_X0_setWhere : Room := { frames := 0, cells := 0, slots := 0, locals := 0 }
theorem pd_X0_setWhere : yX0_setWhere.cls ≠ "java/lang/invoke/MethodHandle" ∧ yX0_setWhere.cls ≠ "java/lang/invoke/VarHandle" ∧ (parseMethodDescriptor yX0_setWhere.desc).map (fun d => d.parameters.length) = some 2 := by decide +kernel
theorem dX0_setWhere_0 : decode cX0_setWhere 0 = .ok (.iconst 0, 1) := by decide +kernel
theorem dX0_setWhere_1 : decode cX0_setWhere 1 = .ok (.istore_n 3, 1) := by decide +kernel
theorem dX0_setWhere_2 : decode cX0_setWhere 2 = .ok (.iconst 0, 1) := by decide +kernel
theorem dX0_setWhere_3 : decode cX0_setWhere 3 = .ok (.istore 4, 2) := by decide +kernel
theorem dX0_setWhere_5 : decode cX0_setWhere 5 = .ok (.iload 4, 2) := by decide +kernel
theorem dX0_setWhere_7 : decode cX0_setWhere 7 = .ok (.aload_n 0, 1) := by decide +kernel
theorem dX0_setWhere_8 : decode cX0_setWhere 8 = .ok (.getfield 39, 3) := by decide +kernel
theorem dX0_setWhere_11 : decode cX0_setWhere 11 = .ok (.if_icmp .ge 24, 3) := by decide +kernel
theorem dX0_setWhere_14 : decode cX0_setWhere 14 = .ok (.aload_n 1, 1) := by decide +kernel
theorem dX0_setWhere_15 : decode cX0_setWhere 15 = .ok (.iload 4, 2) := by decide +kernel
theorem dX0_setWhere_17 : decode cX0_setWhere 17 = .ok (.iaload, 1) := by decide +kernel
theorem dX0_setWhere_18 : decode cX0_setWhere 18 = .ok (.iload_n 2, 1) := by decide +kernel
theorem dX0_setWhere_19 : decode cX0_setWhere 19 = .ok (.if_icmp .ne 10, 3) := by decide +kernel
theorem dX0_setWhere_22 : decode cX0_setWhere 22 = .ok (.iload_n 3, 1) := by decide +kernel
theorem dX0_setWhere_23 : decode cX0_setWhere 23 = .ok (.iconst 1, 1) := by decide +kernel
theorem dX0_setWhere_24 : decode cX0_setWhere 24 = .ok (.iload 4, 2) := by decide +kernel
theorem dX0_setWhere_26 : decode cX0_setWhere 26 = .ok (.ishl, 1) := by decide +kernel
theorem dX0_setWhere_27 : decode cX0_setWhere 27 = .ok (.ior, 1) := by decide +kernel
theorem dX0_setWhere_28 : decode cX0_setWhere 28 = .ok (.istore_n 3, 1) := by decide +kernel
theorem dX0_setWhere_29 : decode cX0_setWhere 29 = .ok (.iinc 4 1, 3) := by decide +kernel
theorem dX0_setWhere_32 : decode cX0_setWhere 32 = .ok (.goto (-27), 3) := by decide +kernel
theorem dX0_setWhere_35 : decode cX0_setWhere 35 = .ok (.iload_n 3, 1) := by decide +kernel
theorem dX0_setWhere_36 : decode cX0_setWhere 36 = .ok (.ireturn, 1) := by decide +kernel
set_option maxHeartbeats 4000000 in
set_option maxRecDepth 100000 in
theorem g_X0_setWhere {E : fh_E} {M : fh_M} (C : fh_Cx E M cX0_setWhere 5 RX0 ((some FieldType.int)) rm_X0_setWhere) (Hr : fh_Rt E M) (k1 : Nat) (k2 : Nat) (a3 : Int32) (σ4 : fh_S) : fh_Go E M 5 fh_vI 0 [(0, .ref (fh_ad E k1)), (1, .ref (fh_ad E k2)), (2, .int a3)] [] σ4 (f_X0_setWhere k1 k2 a3 σ4) := by
  have hok := fh_cok C
  refine go_ob ?_
  refine go_iconst C (0 : Int32) dX0_setWhere_0 rfl ?_
  refine go_istore_n C [(3, .int ((0 : Int32))), (0, .ref (fh_ad E k1)), (1, .ref (fh_ad E k2)), (2, .int a3)] rfl rfl (by decide) dX0_setWhere_1 ?_
  refine go_iconst C (0 : Int32) dX0_setWhere_2 rfl ?_
  refine go_istore C [(4, .int ((0 : Int32))), (3, .int ((0 : Int32))), (0, .ref (fh_ad E k1)), (1, .ref (fh_ad E k2)), (2, .int a3)] rfl (by decide) dX0_setWhere_3 ?_
  refine go_lv [2, 3, 4, 1, 0] (lv' := [(0, .ref (fh_ad E k1)), (1, .ref (fh_ad E k2)), (2, .int a3), (3, .int ((0 : Int32))), (4, .int ((0 : Int32)))]) rfl ?_
  refine go_fx (fun (r8 : Int32 → Int32 → fh_S → Option (Int32 × fh_S)) => ∀ (x5 : Int32) (x6 : Int32) (σ7 : fh_S), fh_Go E M 5 fh_vI 5 [(0, .ref (fh_ad E k1)), (1, .ref (fh_ad E k2)), (2, .int a3), (3, .int x5), (4, .int x6)] [] σ7 (r8 x5 x6 σ7)) ?_ ?_ fh_fu ((0 : Int32)) ((0 : Int32)) σ4
  · intro x5 x6 σ7
    exact go_none
  · intro r8 hr8 x5 x6 σ7
    refine go_iload C 4 rfl dX0_setWhere_5 ?_
    refine go_aload_n C 0 rfl rfl dX0_setWhere_7 ?_
    refine go_gi (ci := 0) (j := 9) C fh_in0 rfl (by decide) rfl q_46 dX0_setWhere_8 (fun v9 => ?_)
    refine go_icmp_ge (tgt := 35) C dX0_setWhere_11 rfl (fun _ => ?_) (fun _ => ?_)
    · refine go_iload_n C 3 rfl rfl dX0_setWhere_35 ?_
      exact go_iret C Hr rfl dX0_setWhere_36
    · refine go_aload_n C 1 rfl rfl dX0_setWhere_14 ?_
      refine go_iload C 4 rfl dX0_setWhere_15 ?_
      refine go_iald C dX0_setWhere_17 (fun v10 => ?_)
      refine go_iload_n C 2 rfl rfl dX0_setWhere_18 ?_
      refine go_jn (fun (j13 : Int32 → fh_S → Option (Int32 × fh_S)) => ∀ (x11 : Int32) (σ12 : fh_S), fh_Go E M 5 fh_vI 29 [(0, .ref (fh_ad E k1)), (1, .ref (fh_ad E k2)), (2, .int a3), (3, .int x11), (4, .int x6)] [] σ12 (j13 x11 σ12)) ?_ (fun j13 hj13 => ?_)
      · intro x11 σ12
        refine go_iinc C (x6 + 1) 4 [(4, .int (x6 + 1)), (0, .ref (fh_ad E k1)), (1, .ref (fh_ad E k2)), (2, .int a3), (3, .int x11)] rfl rfl rfl (by decide) dX0_setWhere_29 ?_
        refine go_goto C 5 dX0_setWhere_32 rfl ?_
        refine go_lv [1, 2, 3, 4, 0] (lv' := [(0, .ref (fh_ad E k1)), (1, .ref (fh_ad E k2)), (2, .int a3), (3, .int x11), (4, .int (x6 + 1))]) rfl ?_
        exact hr8 x11 (x6 + 1) σ12
      refine go_icmp_ne (tgt := 29) C dX0_setWhere_19 rfl (fun _ => ?_) (fun _ => ?_)
      · exact hj13 x5 σ7
      · refine go_iload_n C 3 rfl rfl dX0_setWhere_22 ?_
        refine go_iconst C (1 : Int32) dX0_setWhere_23 rfl ?_
        refine go_iload C 4 rfl dX0_setWhere_24 ?_
        refine go_ishl C dX0_setWhere_26 ?_
        refine go_ior C dX0_setWhere_27 ?_
        refine go_istore_n C [(3, .int (x5 ||| (((1 : Int32)) <<< (x6 &&& 31)))), (0, .ref (fh_ad E k1)), (1, .ref (fh_ad E k2)), (2, .int a3), (4, .int x6)] rfl rfl (by decide) dX0_setWhere_28 ?_
        refine go_lv [1, 2, 3, 0, 4] (lv' := [(0, .ref (fh_ad E k1)), (1, .ref (fh_ad E k2)), (2, .int a3), (3, .int (x5 ||| (((1 : Int32)) <<< (x6 &&& 31)))), (4, .int x6)]) rfl ?_
        exact hj13 (x5 ||| (((1 : Int32)) <<< (x6 &&& 31))) σ7
theorem m_X0_setWhere (E : fh_E) (l : Launch) (hok : fh_ok E) (k1 : Nat) (k2 : Nat) (a3 : Int32) (σ4 : fh_S) : fh_Met E l yX0_setWhere cX0_setWhere 5 ((some FieldType.int)) rm_X0_setWhere fh_vI [.ref (fh_ad E k1), .ref (fh_ad E k2), .int a3] σ4 (f_X0_setWhere k1 k2 a3 σ4) := fh_met hok (by decide +kernel) (Nat.le_of_ble_eq_true rfl) (fun M _ C Hr => g_X0_setWhere C Hr k1 k2 a3 σ4)
def f_X0_stoppedSet (k1 : Nat) (σ2 : fh_S) : Option (Int32 × fh_S) := fh_ob 0 k1 ((fh_gr 0 k1 4).bind fun k3 => fh_cb (f_X0_setWhere k1 k3 ((1 : Int32)) σ2) fun r5 σ4 => some (r5, σ4))
abbrev rm_X0_stoppedSet : Room := { frames := 1, cells := 0, slots := 0, locals := 24 }
theorem pd_X0_stoppedSet : yX0_stoppedSet.cls ≠ "java/lang/invoke/MethodHandle" ∧ yX0_stoppedSet.cls ≠ "java/lang/invoke/VarHandle" ∧ (parseMethodDescriptor yX0_stoppedSet.desc).map (fun d => d.parameters.length) = some 0 := by decide +kernel
theorem dX0_stoppedSet_0 : decode cX0_stoppedSet 0 = .ok (.aload_n 0, 1) := by decide +kernel
theorem dX0_stoppedSet_1 : decode cX0_stoppedSet 1 = .ok (.aload_n 0, 1) := by decide +kernel
theorem dX0_stoppedSet_2 : decode cX0_stoppedSet 2 = .ok (.getfield 24, 3) := by decide +kernel
theorem dX0_stoppedSet_5 : decode cX0_stoppedSet 5 = .ok (.iconst 1, 1) := by decide +kernel
theorem dX0_stoppedSet_6 : decode cX0_stoppedSet 6 = .ok (.invokevirtual 110, 3) := by decide +kernel
theorem dX0_stoppedSet_9 : decode cX0_stoppedSet 9 = .ok (.ireturn, 1) := by decide +kernel
set_option maxHeartbeats 4000000 in
set_option maxRecDepth 100000 in
theorem g_X0_stoppedSet {E : fh_E} {M : fh_M} (C : fh_Cx E M cX0_stoppedSet 1 RX0 ((some FieldType.int)) rm_X0_stoppedSet) (Hr : fh_Rt E M) (k1 : Nat) (σ2 : fh_S) : fh_Go E M 1 fh_vI 0 [(0, .ref (fh_ad E k1))] [] σ2 (f_X0_stoppedSet k1 σ2) := by
  have hok := fh_cok C
  refine go_ob ?_
  refine go_aload_n C 0 rfl rfl dX0_stoppedSet_0 ?_
  refine go_aload_n C 0 rfl rfl dX0_stoppedSet_1 ?_
  refine go_gr (ci := 0) (j := 4) C fh_in0 rfl (by decide) rfl q_39 dX0_stoppedSet_2 (fun k3 => ?_)
  refine go_iconst C (1 : Int32) dX0_stoppedSet_5 rfl ?_
  refine go_callVI C (st := []) [.ref (fh_ad E k3), .int ((1 : Int32))] (m_X0_setWhere E _ hok k1 k3 ((1 : Int32)) σ2) (fun _ h => fh_ob_ok h) rfl rfl ⟨q_286, q_288, qs_2, q_2, q_289⟩ pd_X0_setWhere rfl ⟨⟨Nat.le_of_ble_eq_true rfl, Nat.le_of_ble_eq_true rfl⟩, rfl, rfl⟩ (Nat.le_of_ble_eq_true rfl) dX0_stoppedSet_6 (fun r5 σ4 => ?_)
  exact go_iret C Hr rfl dX0_stoppedSet_9
theorem m_X0_stoppedSet (E : fh_E) (l : Launch) (hok : fh_ok E) (k1 : Nat) (σ2 : fh_S) : fh_Met E l yX0_stoppedSet cX0_stoppedSet 1 ((some FieldType.int)) rm_X0_stoppedSet fh_vI [.ref (fh_ad E k1)] σ2 (f_X0_stoppedSet k1 σ2) := fh_met hok (by decide +kernel) (Nat.le_of_ble_eq_true rfl) (fun M _ C Hr => g_X0_stoppedSet C Hr k1 σ2)
def f_X0_stillSet (k1 : Nat) (σ2 : fh_S) : Option (Int32 × fh_S) := fh_ob 0 k1 ((fh_gr 0 k1 3).bind fun k3 => fh_cb (f_X0_setWhere k1 k3 ((0 : Int32)) σ2) fun r5 σ4 => some (r5, σ4))
abbrev rm_X0_stillSet : Room := { frames := 1, cells := 0, slots := 0, locals := 24 }
theorem pd_X0_stillSet : yX0_stillSet.cls ≠ "java/lang/invoke/MethodHandle" ∧ yX0_stillSet.cls ≠ "java/lang/invoke/VarHandle" ∧ (parseMethodDescriptor yX0_stillSet.desc).map (fun d => d.parameters.length) = some 0 := by decide +kernel
theorem dX0_stillSet_0 : decode cX0_stillSet 0 = .ok (.aload_n 0, 1) := by decide +kernel
theorem dX0_stillSet_1 : decode cX0_stillSet 1 = .ok (.aload_n 0, 1) := by decide +kernel
theorem dX0_stillSet_2 : decode cX0_stillSet 2 = .ok (.getfield 21, 3) := by decide +kernel
theorem dX0_stillSet_5 : decode cX0_stillSet 5 = .ok (.iconst 0, 1) := by decide +kernel
theorem dX0_stillSet_6 : decode cX0_stillSet 6 = .ok (.invokevirtual 110, 3) := by decide +kernel
theorem dX0_stillSet_9 : decode cX0_stillSet 9 = .ok (.ireturn, 1) := by decide +kernel
set_option maxHeartbeats 4000000 in
set_option maxRecDepth 100000 in
theorem g_X0_stillSet {E : fh_E} {M : fh_M} (C : fh_Cx E M cX0_stillSet 1 RX0 ((some FieldType.int)) rm_X0_stillSet) (Hr : fh_Rt E M) (k1 : Nat) (σ2 : fh_S) : fh_Go E M 1 fh_vI 0 [(0, .ref (fh_ad E k1))] [] σ2 (f_X0_stillSet k1 σ2) := by
  have hok := fh_cok C
  refine go_ob ?_
  refine go_aload_n C 0 rfl rfl dX0_stillSet_0 ?_
  refine go_aload_n C 0 rfl rfl dX0_stillSet_1 ?_
  refine go_gr (ci := 0) (j := 3) C fh_in0 rfl (by decide) rfl q_36 dX0_stillSet_2 (fun k3 => ?_)
  refine go_iconst C (0 : Int32) dX0_stillSet_5 rfl ?_
  refine go_callVI C (st := []) [.ref (fh_ad E k3), .int ((0 : Int32))] (m_X0_setWhere E _ hok k1 k3 ((0 : Int32)) σ2) (fun _ h => fh_ob_ok h) rfl rfl ⟨q_286, q_288, qs_2, q_2, q_289⟩ pd_X0_setWhere rfl ⟨⟨Nat.le_of_ble_eq_true rfl, Nat.le_of_ble_eq_true rfl⟩, rfl, rfl⟩ (Nat.le_of_ble_eq_true rfl) dX0_stillSet_6 (fun r5 σ4 => ?_)
  exact go_iret C Hr rfl dX0_stillSet_9
theorem m_X0_stillSet (E : fh_E) (l : Launch) (hok : fh_ok E) (k1 : Nat) (σ2 : fh_S) : fh_Met E l yX0_stillSet cX0_stillSet 1 ((some FieldType.int)) rm_X0_stillSet fh_vI [.ref (fh_ad E k1)] σ2 (f_X0_stillSet k1 σ2) := fh_met hok (by decide +kernel) (Nat.le_of_ble_eq_true rfl) (fun M _ C Hr => g_X0_stillSet C Hr k1 σ2)
def f_X0_ownMasterSet_J28 (r6 : Int32 → Int32 → fh_S → Option (Int32 × fh_S)) (x4 : Int32) : Int32 → fh_S → Option (Int32 × fh_S) := fun x10 σ11 => r6 x10 (x4 + 1) σ11
def f_X0_ownMasterSet_B4 (k1 : Nat) (r6 : Int32 → Int32 → fh_S → Option (Int32 × fh_S)) : Int32 → Int32 → fh_S → Option (Int32 × fh_S) := fun x3 x4 σ5 => (fh_gi σ5 0 k1 9).bind fun v7 => if v7 ≤ x4 then some (x3, σ5) else (fh_gr 0 k1 2).bind fun k8 => (fh_ld σ5 k8 x4).bind fun v9 => fh_jn (f_X0_ownMasterSet_J28 r6 x4) (fun j12 => if v9 = x4 then j12 (x3 ||| (((1 : Int32)) <<< (x4 &&& 31))) σ5 else j12 x3 σ5)
def f_X0_ownMasterSet (k1 : Nat) (σ2 : fh_S) : Option (Int32 × fh_S) := fh_ob 0 k1 (fh_fx (ρ := Int32 → Int32 → fh_S → Option (Int32 × fh_S)) (fun _ _ _ => none) (f_X0_ownMasterSet_B4 k1) fh_fu ((0 : Int32)) ((0 : Int32)) σ2)
abbrev rm_X0_ownMasterSet : Room := { frames := 0, cells := 0, slots := 0, locals := 0 }
theorem pd_X0_ownMasterSet : yX0_ownMasterSet.cls ≠ "java/lang/invoke/MethodHandle" ∧ yX0_ownMasterSet.cls ≠ "java/lang/invoke/VarHandle" ∧ (parseMethodDescriptor yX0_ownMasterSet.desc).map (fun d => d.parameters.length) = some 0 := by decide +kernel
theorem dX0_ownMasterSet_0 : decode cX0_ownMasterSet 0 = .ok (.iconst 0, 1) := by decide +kernel
theorem dX0_ownMasterSet_1 : decode cX0_ownMasterSet 1 = .ok (.istore_n 1, 1) := by decide +kernel
theorem dX0_ownMasterSet_2 : decode cX0_ownMasterSet 2 = .ok (.iconst 0, 1) := by decide +kernel
theorem dX0_ownMasterSet_3 : decode cX0_ownMasterSet 3 = .ok (.istore_n 2, 1) := by decide +kernel
theorem dX0_ownMasterSet_4 : decode cX0_ownMasterSet 4 = .ok (.iload_n 2, 1) := by decide +kernel
theorem dX0_ownMasterSet_5 : decode cX0_ownMasterSet 5 = .ok (.aload_n 0, 1) := by decide +kernel
theorem dX0_ownMasterSet_6 : decode cX0_ownMasterSet 6 = .ok (.getfield 39, 3) := by decide +kernel
theorem dX0_ownMasterSet_9 : decode cX0_ownMasterSet 9 = .ok (.if_icmp .ge 25, 3) := by decide +kernel
theorem dX0_ownMasterSet_12 : decode cX0_ownMasterSet 12 = .ok (.aload_n 0, 1) := by decide +kernel
theorem dX0_ownMasterSet_13 : decode cX0_ownMasterSet 13 = .ok (.getfield 18, 3) := by decide +kernel
theorem dX0_ownMasterSet_16 : decode cX0_ownMasterSet 16 = .ok (.iload_n 2, 1) := by decide +kernel
theorem dX0_ownMasterSet_17 : decode cX0_ownMasterSet 17 = .ok (.iaload, 1) := by decide +kernel
theorem dX0_ownMasterSet_18 : decode cX0_ownMasterSet 18 = .ok (.iload_n 2, 1) := by decide +kernel
theorem dX0_ownMasterSet_19 : decode cX0_ownMasterSet 19 = .ok (.if_icmp .ne 9, 3) := by decide +kernel
theorem dX0_ownMasterSet_22 : decode cX0_ownMasterSet 22 = .ok (.iload_n 1, 1) := by decide +kernel
theorem dX0_ownMasterSet_23 : decode cX0_ownMasterSet 23 = .ok (.iconst 1, 1) := by decide +kernel
theorem dX0_ownMasterSet_24 : decode cX0_ownMasterSet 24 = .ok (.iload_n 2, 1) := by decide +kernel
theorem dX0_ownMasterSet_25 : decode cX0_ownMasterSet 25 = .ok (.ishl, 1) := by decide +kernel
theorem dX0_ownMasterSet_26 : decode cX0_ownMasterSet 26 = .ok (.ior, 1) := by decide +kernel
theorem dX0_ownMasterSet_27 : decode cX0_ownMasterSet 27 = .ok (.istore_n 1, 1) := by decide +kernel
theorem dX0_ownMasterSet_28 : decode cX0_ownMasterSet 28 = .ok (.iinc 2 1, 3) := by decide +kernel
theorem dX0_ownMasterSet_31 : decode cX0_ownMasterSet 31 = .ok (.goto (-27), 3) := by decide +kernel
theorem dX0_ownMasterSet_34 : decode cX0_ownMasterSet 34 = .ok (.iload_n 1, 1) := by decide +kernel
theorem dX0_ownMasterSet_35 : decode cX0_ownMasterSet 35 = .ok (.ireturn, 1) := by decide +kernel
set_option maxHeartbeats 4000000 in
set_option maxRecDepth 100000 in
theorem g_X0_ownMasterSet {E : fh_E} {M : fh_M} (C : fh_Cx E M cX0_ownMasterSet 3 RX0 ((some FieldType.int)) rm_X0_ownMasterSet) (Hr : fh_Rt E M) (k1 : Nat) (σ2 : fh_S) : fh_Go E M 3 fh_vI 0 [(0, .ref (fh_ad E k1))] [] σ2 (f_X0_ownMasterSet k1 σ2) := by
  have hok := fh_cok C
  refine go_ob ?_
  refine go_iconst C (0 : Int32) dX0_ownMasterSet_0 rfl ?_
  refine go_istore_n C [(1, .int ((0 : Int32))), (0, .ref (fh_ad E k1))] rfl rfl (by decide) dX0_ownMasterSet_1 ?_
  refine go_iconst C (0 : Int32) dX0_ownMasterSet_2 rfl ?_
  refine go_istore_n C [(2, .int ((0 : Int32))), (1, .int ((0 : Int32))), (0, .ref (fh_ad E k1))] rfl rfl (by decide) dX0_ownMasterSet_3 ?_
  refine go_lv [2, 1, 0] (lv' := [(0, .ref (fh_ad E k1)), (1, .int ((0 : Int32))), (2, .int ((0 : Int32)))]) rfl ?_
  refine go_fx (fun (r6 : Int32 → Int32 → fh_S → Option (Int32 × fh_S)) => ∀ (x3 : Int32) (x4 : Int32) (σ5 : fh_S), fh_Go E M 3 fh_vI 4 [(0, .ref (fh_ad E k1)), (1, .int x3), (2, .int x4)] [] σ5 (r6 x3 x4 σ5)) ?_ ?_ fh_fu ((0 : Int32)) ((0 : Int32)) σ2
  · intro x3 x4 σ5
    exact go_none
  · intro r6 hr6 x3 x4 σ5
    refine go_iload_n C 2 rfl rfl dX0_ownMasterSet_4 ?_
    refine go_aload_n C 0 rfl rfl dX0_ownMasterSet_5 ?_
    refine go_gi (ci := 0) (j := 9) C fh_in0 rfl (by decide) rfl q_46 dX0_ownMasterSet_6 (fun v7 => ?_)
    refine go_icmp_ge (tgt := 34) C dX0_ownMasterSet_9 rfl (fun _ => ?_) (fun _ => ?_)
    · refine go_iload_n C 1 rfl rfl dX0_ownMasterSet_34 ?_
      exact go_iret C Hr rfl dX0_ownMasterSet_35
    · refine go_aload_n C 0 rfl rfl dX0_ownMasterSet_12 ?_
      refine go_gr (ci := 0) (j := 2) C fh_in0 rfl (by decide) rfl q_33 dX0_ownMasterSet_13 (fun k8 => ?_)
      refine go_iload_n C 2 rfl rfl dX0_ownMasterSet_16 ?_
      refine go_iald C dX0_ownMasterSet_17 (fun v9 => ?_)
      refine go_iload_n C 2 rfl rfl dX0_ownMasterSet_18 ?_
      refine go_jn (fun (j12 : Int32 → fh_S → Option (Int32 × fh_S)) => ∀ (x10 : Int32) (σ11 : fh_S), fh_Go E M 3 fh_vI 28 [(0, .ref (fh_ad E k1)), (1, .int x10), (2, .int x4)] [] σ11 (j12 x10 σ11)) ?_ (fun j12 hj12 => ?_)
      · intro x10 σ11
        refine go_iinc C (x4 + 1) 2 [(2, .int (x4 + 1)), (0, .ref (fh_ad E k1)), (1, .int x10)] rfl rfl rfl (by decide) dX0_ownMasterSet_28 ?_
        refine go_goto C 4 dX0_ownMasterSet_31 rfl ?_
        refine go_lv [1, 2, 0] (lv' := [(0, .ref (fh_ad E k1)), (1, .int x10), (2, .int (x4 + 1))]) rfl ?_
        exact hr6 x10 (x4 + 1) σ11
      refine go_icmp_ne (tgt := 28) C dX0_ownMasterSet_19 rfl (fun _ => ?_) (fun _ => ?_)
      · exact hj12 x3 σ5
      · refine go_iload_n C 1 rfl rfl dX0_ownMasterSet_22 ?_
        refine go_iconst C (1 : Int32) dX0_ownMasterSet_23 rfl ?_
        refine go_iload_n C 2 rfl rfl dX0_ownMasterSet_24 ?_
        refine go_ishl C dX0_ownMasterSet_25 ?_
        refine go_ior C dX0_ownMasterSet_26 ?_
        refine go_istore_n C [(1, .int (x3 ||| (((1 : Int32)) <<< (x4 &&& 31)))), (0, .ref (fh_ad E k1)), (2, .int x4)] rfl rfl (by decide) dX0_ownMasterSet_27 ?_
        refine go_lv [1, 0, 2] (lv' := [(0, .ref (fh_ad E k1)), (1, .int (x3 ||| (((1 : Int32)) <<< (x4 &&& 31)))), (2, .int x4)]) rfl ?_
        exact hj12 (x3 ||| (((1 : Int32)) <<< (x4 &&& 31))) σ5
theorem m_X0_ownMasterSet (E : fh_E) (l : Launch) (hok : fh_ok E) (k1 : Nat) (σ2 : fh_S) : fh_Met E l yX0_ownMasterSet cX0_ownMasterSet 3 ((some FieldType.int)) rm_X0_ownMasterSet fh_vI [.ref (fh_ad E k1)] σ2 (f_X0_ownMasterSet k1 σ2) := fh_met hok (by decide +kernel) (Nat.le_of_ble_eq_true rfl) (fun M _ C Hr => g_X0_ownMasterSet C Hr k1 σ2)
def f_X0_sumOf_B4 (k1 : Nat) (k2 : Nat) (r7 : Int32 → Int32 → fh_S → Option (Int32 × fh_S)) : Int32 → Int32 → fh_S → Option (Int32 × fh_S) := fun x4 x5 σ6 => (fh_gi σ6 0 k1 9).bind fun v8 => if v8 ≤ x5 then some (x4, σ6) else (fh_ld σ6 k2 x5).bind fun v9 => r7 (x4 + v9) (x5 + 1) σ6
def f_X0_sumOf (k1 : Nat) (k2 : Nat) (σ3 : fh_S) : Option (Int32 × fh_S) := fh_ob 0 k1 (fh_fx (ρ := Int32 → Int32 → fh_S → Option (Int32 × fh_S)) (fun _ _ _ => none) (f_X0_sumOf_B4 k1 k2) fh_fu ((0 : Int32)) ((0 : Int32)) σ3)
abbrev rm_X0_sumOf : Room := { frames := 0, cells := 0, slots := 0, locals := 0 }
theorem pd_X0_sumOf : yX0_sumOf.cls ≠ "java/lang/invoke/MethodHandle" ∧ yX0_sumOf.cls ≠ "java/lang/invoke/VarHandle" ∧ (parseMethodDescriptor yX0_sumOf.desc).map (fun d => d.parameters.length) = some 1 := by decide +kernel
theorem dX0_sumOf_0 : decode cX0_sumOf 0 = .ok (.iconst 0, 1) := by decide +kernel
theorem dX0_sumOf_1 : decode cX0_sumOf 1 = .ok (.istore_n 2, 1) := by decide +kernel
theorem dX0_sumOf_2 : decode cX0_sumOf 2 = .ok (.iconst 0, 1) := by decide +kernel
theorem dX0_sumOf_3 : decode cX0_sumOf 3 = .ok (.istore_n 3, 1) := by decide +kernel
theorem dX0_sumOf_4 : decode cX0_sumOf 4 = .ok (.iload_n 3, 1) := by decide +kernel
theorem dX0_sumOf_5 : decode cX0_sumOf 5 = .ok (.aload_n 0, 1) := by decide +kernel
theorem dX0_sumOf_6 : decode cX0_sumOf 6 = .ok (.getfield 39, 3) := by decide +kernel
theorem dX0_sumOf_9 : decode cX0_sumOf 9 = .ok (.if_icmp .ge 15, 3) := by decide +kernel
theorem dX0_sumOf_12 : decode cX0_sumOf 12 = .ok (.iload_n 2, 1) := by decide +kernel
theorem dX0_sumOf_13 : decode cX0_sumOf 13 = .ok (.aload_n 1, 1) := by decide +kernel
theorem dX0_sumOf_14 : decode cX0_sumOf 14 = .ok (.iload_n 3, 1) := by decide +kernel
theorem dX0_sumOf_15 : decode cX0_sumOf 15 = .ok (.iaload, 1) := by decide +kernel
theorem dX0_sumOf_16 : decode cX0_sumOf 16 = .ok (.iadd, 1) := by decide +kernel
theorem dX0_sumOf_17 : decode cX0_sumOf 17 = .ok (.istore_n 2, 1) := by decide +kernel
theorem dX0_sumOf_18 : decode cX0_sumOf 18 = .ok (.iinc 3 1, 3) := by decide +kernel
theorem dX0_sumOf_21 : decode cX0_sumOf 21 = .ok (.goto (-17), 3) := by decide +kernel
theorem dX0_sumOf_24 : decode cX0_sumOf 24 = .ok (.iload_n 2, 1) := by decide +kernel
theorem dX0_sumOf_25 : decode cX0_sumOf 25 = .ok (.ireturn, 1) := by decide +kernel
set_option maxHeartbeats 4000000 in
set_option maxRecDepth 100000 in
theorem g_X0_sumOf {E : fh_E} {M : fh_M} (C : fh_Cx E M cX0_sumOf 4 RX0 ((some FieldType.int)) rm_X0_sumOf) (Hr : fh_Rt E M) (k1 : Nat) (k2 : Nat) (σ3 : fh_S) : fh_Go E M 4 fh_vI 0 [(0, .ref (fh_ad E k1)), (1, .ref (fh_ad E k2))] [] σ3 (f_X0_sumOf k1 k2 σ3) := by
  have hok := fh_cok C
  refine go_ob ?_
  refine go_iconst C (0 : Int32) dX0_sumOf_0 rfl ?_
  refine go_istore_n C [(2, .int ((0 : Int32))), (0, .ref (fh_ad E k1)), (1, .ref (fh_ad E k2))] rfl rfl (by decide) dX0_sumOf_1 ?_
  refine go_iconst C (0 : Int32) dX0_sumOf_2 rfl ?_
  refine go_istore_n C [(3, .int ((0 : Int32))), (2, .int ((0 : Int32))), (0, .ref (fh_ad E k1)), (1, .ref (fh_ad E k2))] rfl rfl (by decide) dX0_sumOf_3 ?_
  refine go_lv [2, 3, 1, 0] (lv' := [(0, .ref (fh_ad E k1)), (1, .ref (fh_ad E k2)), (2, .int ((0 : Int32))), (3, .int ((0 : Int32)))]) rfl ?_
  refine go_fx (fun (r7 : Int32 → Int32 → fh_S → Option (Int32 × fh_S)) => ∀ (x4 : Int32) (x5 : Int32) (σ6 : fh_S), fh_Go E M 4 fh_vI 4 [(0, .ref (fh_ad E k1)), (1, .ref (fh_ad E k2)), (2, .int x4), (3, .int x5)] [] σ6 (r7 x4 x5 σ6)) ?_ ?_ fh_fu ((0 : Int32)) ((0 : Int32)) σ3
  · intro x4 x5 σ6
    exact go_none
  · intro r7 hr7 x4 x5 σ6
    refine go_iload_n C 3 rfl rfl dX0_sumOf_4 ?_
    refine go_aload_n C 0 rfl rfl dX0_sumOf_5 ?_
    refine go_gi (ci := 0) (j := 9) C fh_in0 rfl (by decide) rfl q_46 dX0_sumOf_6 (fun v8 => ?_)
    refine go_icmp_ge (tgt := 24) C dX0_sumOf_9 rfl (fun _ => ?_) (fun _ => ?_)
    · refine go_iload_n C 2 rfl rfl dX0_sumOf_24 ?_
      exact go_iret C Hr rfl dX0_sumOf_25
    · refine go_iload_n C 2 rfl rfl dX0_sumOf_12 ?_
      refine go_aload_n C 1 rfl rfl dX0_sumOf_13 ?_
      refine go_iload_n C 3 rfl rfl dX0_sumOf_14 ?_
      refine go_iald C dX0_sumOf_15 (fun v9 => ?_)
      refine go_iadd C dX0_sumOf_16 ?_
      refine go_istore_n C [(2, .int (x4 + v9)), (0, .ref (fh_ad E k1)), (1, .ref (fh_ad E k2)), (3, .int x5)] rfl rfl (by decide) dX0_sumOf_17 ?_
      refine go_iinc C (x5 + 1) 3 [(3, .int (x5 + 1)), (2, .int (x4 + v9)), (0, .ref (fh_ad E k1)), (1, .ref (fh_ad E k2))] rfl rfl rfl (by decide) dX0_sumOf_18 ?_
      refine go_goto C 4 dX0_sumOf_21 rfl ?_
      refine go_lv [2, 3, 1, 0] (lv' := [(0, .ref (fh_ad E k1)), (1, .ref (fh_ad E k2)), (2, .int (x4 + v9)), (3, .int (x5 + 1))]) rfl ?_
      exact hr7 (x4 + v9) (x5 + 1) σ6
theorem m_X0_sumOf (E : fh_E) (l : Launch) (hok : fh_ok E) (k1 : Nat) (k2 : Nat) (σ3 : fh_S) : fh_Met E l yX0_sumOf cX0_sumOf 4 ((some FieldType.int)) rm_X0_sumOf fh_vI [.ref (fh_ad E k1), .ref (fh_ad E k2)] σ3 (f_X0_sumOf k1 k2 σ3) := fh_met hok (by decide +kernel) (Nat.le_of_ble_eq_true rfl) (fun M _ C Hr => g_X0_sumOf C Hr k1 k2 σ3)
def f_X0_heldCount_J22 (r6 : Int32 → Int32 → fh_S → Option (Int32 × fh_S)) (x4 : Int32) : Int32 → fh_S → Option (Int32 × fh_S) := fun x9 σ10 => r6 x9 (x4 + 1) σ10
def f_X0_heldCount_B4 (k1 : Nat) (r6 : Int32 → Int32 → fh_S → Option (Int32 × fh_S)) : Int32 → Int32 → fh_S → Option (Int32 × fh_S) := fun x3 x4 σ5 => if ((10 : Int32)) ≤ x4 then some (x3, σ5) else (fh_gr 0 k1 6).bind fun k7 => (fh_ld σ5 k7 x4).bind fun v8 => fh_jn (f_X0_heldCount_J22 r6 x4) (fun j11 => if v8 < 0 then j11 x3 σ5 else j11 (x3 + 1) σ5)
def f_X0_heldCount (k1 : Nat) (σ2 : fh_S) : Option (Int32 × fh_S) := fh_ob 0 k1 (fh_fx (ρ := Int32 → Int32 → fh_S → Option (Int32 × fh_S)) (fun _ _ _ => none) (f_X0_heldCount_B4 k1) fh_fu ((0 : Int32)) ((0 : Int32)) σ2)
abbrev rm_X0_heldCount : Room := { frames := 0, cells := 0, slots := 0, locals := 0 }
theorem pd_X0_heldCount : yX0_heldCount.cls ≠ "java/lang/invoke/MethodHandle" ∧ yX0_heldCount.cls ≠ "java/lang/invoke/VarHandle" ∧ (parseMethodDescriptor yX0_heldCount.desc).map (fun d => d.parameters.length) = some 0 := by decide +kernel
theorem dX0_heldCount_0 : decode cX0_heldCount 0 = .ok (.iconst 0, 1) := by decide +kernel
theorem dX0_heldCount_1 : decode cX0_heldCount 1 = .ok (.istore_n 1, 1) := by decide +kernel
theorem dX0_heldCount_2 : decode cX0_heldCount 2 = .ok (.iconst 0, 1) := by decide +kernel
theorem dX0_heldCount_3 : decode cX0_heldCount 3 = .ok (.istore_n 2, 1) := by decide +kernel
theorem dX0_heldCount_4 : decode cX0_heldCount 4 = .ok (.iload_n 2, 1) := by decide +kernel
theorem dX0_heldCount_5 : decode cX0_heldCount 5 = .ok (.bipush 10, 2) := by decide +kernel
theorem dX0_heldCount_7 : decode cX0_heldCount 7 = .ok (.if_icmp .ge 21, 3) := by decide +kernel
theorem dX0_heldCount_10 : decode cX0_heldCount 10 = .ok (.aload_n 0, 1) := by decide +kernel
theorem dX0_heldCount_11 : decode cX0_heldCount 11 = .ok (.getfield 30, 3) := by decide +kernel
theorem dX0_heldCount_14 : decode cX0_heldCount 14 = .ok (.iload_n 2, 1) := by decide +kernel
theorem dX0_heldCount_15 : decode cX0_heldCount 15 = .ok (.iaload, 1) := by decide +kernel
theorem dX0_heldCount_16 : decode cX0_heldCount 16 = .ok (.ifCond .lt 6, 3) := by decide +kernel
theorem dX0_heldCount_19 : decode cX0_heldCount 19 = .ok (.iinc 1 1, 3) := by decide +kernel
theorem dX0_heldCount_22 : decode cX0_heldCount 22 = .ok (.iinc 2 1, 3) := by decide +kernel
theorem dX0_heldCount_25 : decode cX0_heldCount 25 = .ok (.goto (-21), 3) := by decide +kernel
theorem dX0_heldCount_28 : decode cX0_heldCount 28 = .ok (.iload_n 1, 1) := by decide +kernel
theorem dX0_heldCount_29 : decode cX0_heldCount 29 = .ok (.ireturn, 1) := by decide +kernel
set_option maxHeartbeats 4000000 in
set_option maxRecDepth 100000 in
theorem g_X0_heldCount {E : fh_E} {M : fh_M} (C : fh_Cx E M cX0_heldCount 3 RX0 ((some FieldType.int)) rm_X0_heldCount) (Hr : fh_Rt E M) (k1 : Nat) (σ2 : fh_S) : fh_Go E M 3 fh_vI 0 [(0, .ref (fh_ad E k1))] [] σ2 (f_X0_heldCount k1 σ2) := by
  have hok := fh_cok C
  refine go_ob ?_
  refine go_iconst C (0 : Int32) dX0_heldCount_0 rfl ?_
  refine go_istore_n C [(1, .int ((0 : Int32))), (0, .ref (fh_ad E k1))] rfl rfl (by decide) dX0_heldCount_1 ?_
  refine go_iconst C (0 : Int32) dX0_heldCount_2 rfl ?_
  refine go_istore_n C [(2, .int ((0 : Int32))), (1, .int ((0 : Int32))), (0, .ref (fh_ad E k1))] rfl rfl (by decide) dX0_heldCount_3 ?_
  refine go_lv [2, 1, 0] (lv' := [(0, .ref (fh_ad E k1)), (1, .int ((0 : Int32))), (2, .int ((0 : Int32)))]) rfl ?_
  refine go_fx (fun (r6 : Int32 → Int32 → fh_S → Option (Int32 × fh_S)) => ∀ (x3 : Int32) (x4 : Int32) (σ5 : fh_S), fh_Go E M 3 fh_vI 4 [(0, .ref (fh_ad E k1)), (1, .int x3), (2, .int x4)] [] σ5 (r6 x3 x4 σ5)) ?_ ?_ fh_fu ((0 : Int32)) ((0 : Int32)) σ2
  · intro x3 x4 σ5
    exact go_none
  · intro r6 hr6 x3 x4 σ5
    refine go_iload_n C 2 rfl rfl dX0_heldCount_4 ?_
    refine go_bipush C (10 : Int32) dX0_heldCount_5 rfl ?_
    refine go_icmp_ge (tgt := 28) C dX0_heldCount_7 rfl (fun _ => ?_) (fun _ => ?_)
    · refine go_iload_n C 1 rfl rfl dX0_heldCount_28 ?_
      exact go_iret C Hr rfl dX0_heldCount_29
    · refine go_aload_n C 0 rfl rfl dX0_heldCount_10 ?_
      refine go_gr (ci := 0) (j := 6) C fh_in0 rfl (by decide) rfl q_42 dX0_heldCount_11 (fun k7 => ?_)
      refine go_iload_n C 2 rfl rfl dX0_heldCount_14 ?_
      refine go_iald C dX0_heldCount_15 (fun v8 => ?_)
      refine go_jn (fun (j11 : Int32 → fh_S → Option (Int32 × fh_S)) => ∀ (x9 : Int32) (σ10 : fh_S), fh_Go E M 3 fh_vI 22 [(0, .ref (fh_ad E k1)), (1, .int x9), (2, .int x4)] [] σ10 (j11 x9 σ10)) ?_ (fun j11 hj11 => ?_)
      · intro x9 σ10
        refine go_iinc C (x4 + 1) 2 [(2, .int (x4 + 1)), (0, .ref (fh_ad E k1)), (1, .int x9)] rfl rfl rfl (by decide) dX0_heldCount_22 ?_
        refine go_goto C 4 dX0_heldCount_25 rfl ?_
        refine go_lv [1, 2, 0] (lv' := [(0, .ref (fh_ad E k1)), (1, .int x9), (2, .int (x4 + 1))]) rfl ?_
        exact hr6 x9 (x4 + 1) σ10
      refine go_if_lt (tgt := 22) C dX0_heldCount_16 rfl (fun _ => ?_) (fun _ => ?_)
      · exact hj11 x3 σ5
      · refine go_iinc C (x3 + 1) 1 [(1, .int (x3 + 1)), (0, .ref (fh_ad E k1)), (2, .int x4)] rfl rfl rfl (by decide) dX0_heldCount_19 ?_
        refine go_lv [1, 0, 2] (lv' := [(0, .ref (fh_ad E k1)), (1, .int (x3 + 1)), (2, .int x4)]) rfl ?_
        exact hj11 (x3 + 1) σ5
theorem m_X0_heldCount (E : fh_E) (l : Launch) (hok : fh_ok E) (k1 : Nat) (σ2 : fh_S) : fh_Met E l yX0_heldCount cX0_heldCount 3 ((some FieldType.int)) rm_X0_heldCount fh_vI [.ref (fh_ad E k1)] σ2 (f_X0_heldCount k1 σ2) := fh_met hok (by decide +kernel) (Nat.le_of_ble_eq_true rfl) (fun M _ C Hr => g_X0_heldCount C Hr k1 σ2)
def f_J6_bitCount_0f7a4 (a1 : Int32) (σ2 : fh_S) : Option (Int32 × fh_S) := some ((((((((a1 - (((a1.toUInt32 >>> (((1 : Int32)).toUInt32 &&& Int32.toUInt32 31)).toInt32) &&& ((1431655765 : Int32)))) &&& ((858993459 : Int32))) + ((((a1 - (((a1.toUInt32 >>> (((1 : Int32)).toUInt32 &&& Int32.toUInt32 31)).toInt32) &&& ((1431655765 : Int32)))).toUInt32 >>> (((2 : Int32)).toUInt32 &&& Int32.toUInt32 31)).toInt32) &&& ((858993459 : Int32)))) + (((((a1 - (((a1.toUInt32 >>> (((1 : Int32)).toUInt32 &&& Int32.toUInt32 31)).toInt32) &&& ((1431655765 : Int32)))) &&& ((858993459 : Int32))) + ((((a1 - (((a1.toUInt32 >>> (((1 : Int32)).toUInt32 &&& Int32.toUInt32 31)).toInt32) &&& ((1431655765 : Int32)))).toUInt32 >>> (((2 : Int32)).toUInt32 &&& Int32.toUInt32 31)).toInt32) &&& ((858993459 : Int32)))).toUInt32 >>> (((4 : Int32)).toUInt32 &&& Int32.toUInt32 31)).toInt32)) &&& ((252645135 : Int32))) + (((((((a1 - (((a1.toUInt32 >>> (((1 : Int32)).toUInt32 &&& Int32.toUInt32 31)).toInt32) &&& ((1431655765 : Int32)))) &&& ((858993459 : Int32))) + ((((a1 - (((a1.toUInt32 >>> (((1 : Int32)).toUInt32 &&& Int32.toUInt32 31)).toInt32) &&& ((1431655765 : Int32)))).toUInt32 >>> (((2 : Int32)).toUInt32 &&& Int32.toUInt32 31)).toInt32) &&& ((858993459 : Int32)))) + (((((a1 - (((a1.toUInt32 >>> (((1 : Int32)).toUInt32 &&& Int32.toUInt32 31)).toInt32) &&& ((1431655765 : Int32)))) &&& ((858993459 : Int32))) + ((((a1 - (((a1.toUInt32 >>> (((1 : Int32)).toUInt32 &&& Int32.toUInt32 31)).toInt32) &&& ((1431655765 : Int32)))).toUInt32 >>> (((2 : Int32)).toUInt32 &&& Int32.toUInt32 31)).toInt32) &&& ((858993459 : Int32)))).toUInt32 >>> (((4 : Int32)).toUInt32 &&& Int32.toUInt32 31)).toInt32)) &&& ((252645135 : Int32))).toUInt32 >>> (((8 : Int32)).toUInt32 &&& Int32.toUInt32 31)).toInt32)) + ((((((((a1 - (((a1.toUInt32 >>> (((1 : Int32)).toUInt32 &&& Int32.toUInt32 31)).toInt32) &&& ((1431655765 : Int32)))) &&& ((858993459 : Int32))) + ((((a1 - (((a1.toUInt32 >>> (((1 : Int32)).toUInt32 &&& Int32.toUInt32 31)).toInt32) &&& ((1431655765 : Int32)))).toUInt32 >>> (((2 : Int32)).toUInt32 &&& Int32.toUInt32 31)).toInt32) &&& ((858993459 : Int32)))) + (((((a1 - (((a1.toUInt32 >>> (((1 : Int32)).toUInt32 &&& Int32.toUInt32 31)).toInt32) &&& ((1431655765 : Int32)))) &&& ((858993459 : Int32))) + ((((a1 - (((a1.toUInt32 >>> (((1 : Int32)).toUInt32 &&& Int32.toUInt32 31)).toInt32) &&& ((1431655765 : Int32)))).toUInt32 >>> (((2 : Int32)).toUInt32 &&& Int32.toUInt32 31)).toInt32) &&& ((858993459 : Int32)))).toUInt32 >>> (((4 : Int32)).toUInt32 &&& Int32.toUInt32 31)).toInt32)) &&& ((252645135 : Int32))) + (((((((a1 - (((a1.toUInt32 >>> (((1 : Int32)).toUInt32 &&& Int32.toUInt32 31)).toInt32) &&& ((1431655765 : Int32)))) &&& ((858993459 : Int32))) + ((((a1 - (((a1.toUInt32 >>> (((1 : Int32)).toUInt32 &&& Int32.toUInt32 31)).toInt32) &&& ((1431655765 : Int32)))).toUInt32 >>> (((2 : Int32)).toUInt32 &&& Int32.toUInt32 31)).toInt32) &&& ((858993459 : Int32)))) + (((((a1 - (((a1.toUInt32 >>> (((1 : Int32)).toUInt32 &&& Int32.toUInt32 31)).toInt32) &&& ((1431655765 : Int32)))) &&& ((858993459 : Int32))) + ((((a1 - (((a1.toUInt32 >>> (((1 : Int32)).toUInt32 &&& Int32.toUInt32 31)).toInt32) &&& ((1431655765 : Int32)))).toUInt32 >>> (((2 : Int32)).toUInt32 &&& Int32.toUInt32 31)).toInt32) &&& ((858993459 : Int32)))).toUInt32 >>> (((4 : Int32)).toUInt32 &&& Int32.toUInt32 31)).toInt32)) &&& ((252645135 : Int32))).toUInt32 >>> (((8 : Int32)).toUInt32 &&& Int32.toUInt32 31)).toInt32)).toUInt32 >>> (((16 : Int32)).toUInt32 &&& Int32.toUInt32 31)).toInt32)) &&& ((63 : Int32)), σ2)
abbrev rm_J6_bitCount_0f7a4 : Room := { frames := 0, cells := 0, slots := 0, locals := 0 }
theorem pd_J6_bitCount_0f7a4 : yJ6_bitCount_0f7a4.cls ≠ "java/lang/invoke/MethodHandle" ∧ yJ6_bitCount_0f7a4.cls ≠ "java/lang/invoke/VarHandle" ∧ (parseMethodDescriptor yJ6_bitCount_0f7a4.desc).map (fun d => d.parameters.length) = some 1 := by decide +kernel
theorem dJ6_bitCount_0f7a4_0 : decode cJ6_bitCount_0f7a4 0 = .ok (.iload_n 0, 1) := by decide +kernel
theorem dJ6_bitCount_0f7a4_1 : decode cJ6_bitCount_0f7a4 1 = .ok (.iload_n 0, 1) := by decide +kernel
theorem dJ6_bitCount_0f7a4_2 : decode cJ6_bitCount_0f7a4 2 = .ok (.iconst 1, 1) := by decide +kernel
theorem dJ6_bitCount_0f7a4_3 : decode cJ6_bitCount_0f7a4 3 = .ok (.iushr, 1) := by decide +kernel
theorem dJ6_bitCount_0f7a4_4 : decode cJ6_bitCount_0f7a4 4 = .ok (.ldc_w 265, 3) := by decide +kernel
theorem dJ6_bitCount_0f7a4_7 : decode cJ6_bitCount_0f7a4 7 = .ok (.iand, 1) := by decide +kernel
theorem dJ6_bitCount_0f7a4_8 : decode cJ6_bitCount_0f7a4 8 = .ok (.isub, 1) := by decide +kernel
theorem dJ6_bitCount_0f7a4_9 : decode cJ6_bitCount_0f7a4 9 = .ok (.istore_n 0, 1) := by decide +kernel
theorem dJ6_bitCount_0f7a4_10 : decode cJ6_bitCount_0f7a4 10 = .ok (.iload_n 0, 1) := by decide +kernel
theorem dJ6_bitCount_0f7a4_11 : decode cJ6_bitCount_0f7a4 11 = .ok (.ldc_w 266, 3) := by decide +kernel
theorem dJ6_bitCount_0f7a4_14 : decode cJ6_bitCount_0f7a4 14 = .ok (.iand, 1) := by decide +kernel
theorem dJ6_bitCount_0f7a4_15 : decode cJ6_bitCount_0f7a4 15 = .ok (.iload_n 0, 1) := by decide +kernel
theorem dJ6_bitCount_0f7a4_16 : decode cJ6_bitCount_0f7a4 16 = .ok (.iconst 2, 1) := by decide +kernel
theorem dJ6_bitCount_0f7a4_17 : decode cJ6_bitCount_0f7a4 17 = .ok (.iushr, 1) := by decide +kernel
theorem dJ6_bitCount_0f7a4_18 : decode cJ6_bitCount_0f7a4 18 = .ok (.ldc_w 266, 3) := by decide +kernel
theorem dJ6_bitCount_0f7a4_21 : decode cJ6_bitCount_0f7a4 21 = .ok (.iand, 1) := by decide +kernel
theorem dJ6_bitCount_0f7a4_22 : decode cJ6_bitCount_0f7a4 22 = .ok (.iadd, 1) := by decide +kernel
theorem dJ6_bitCount_0f7a4_23 : decode cJ6_bitCount_0f7a4 23 = .ok (.istore_n 0, 1) := by decide +kernel
theorem dJ6_bitCount_0f7a4_24 : decode cJ6_bitCount_0f7a4 24 = .ok (.iload_n 0, 1) := by decide +kernel
theorem dJ6_bitCount_0f7a4_25 : decode cJ6_bitCount_0f7a4 25 = .ok (.iload_n 0, 1) := by decide +kernel
theorem dJ6_bitCount_0f7a4_26 : decode cJ6_bitCount_0f7a4 26 = .ok (.iconst 4, 1) := by decide +kernel
theorem dJ6_bitCount_0f7a4_27 : decode cJ6_bitCount_0f7a4 27 = .ok (.iushr, 1) := by decide +kernel
theorem dJ6_bitCount_0f7a4_28 : decode cJ6_bitCount_0f7a4 28 = .ok (.iadd, 1) := by decide +kernel
theorem dJ6_bitCount_0f7a4_29 : decode cJ6_bitCount_0f7a4 29 = .ok (.ldc_w 267, 3) := by decide +kernel
theorem dJ6_bitCount_0f7a4_32 : decode cJ6_bitCount_0f7a4 32 = .ok (.iand, 1) := by decide +kernel
theorem dJ6_bitCount_0f7a4_33 : decode cJ6_bitCount_0f7a4 33 = .ok (.istore_n 0, 1) := by decide +kernel
theorem dJ6_bitCount_0f7a4_34 : decode cJ6_bitCount_0f7a4 34 = .ok (.iload_n 0, 1) := by decide +kernel
theorem dJ6_bitCount_0f7a4_35 : decode cJ6_bitCount_0f7a4 35 = .ok (.iload_n 0, 1) := by decide +kernel
theorem dJ6_bitCount_0f7a4_36 : decode cJ6_bitCount_0f7a4 36 = .ok (.bipush 8, 2) := by decide +kernel
theorem dJ6_bitCount_0f7a4_38 : decode cJ6_bitCount_0f7a4 38 = .ok (.iushr, 1) := by decide +kernel
theorem dJ6_bitCount_0f7a4_39 : decode cJ6_bitCount_0f7a4 39 = .ok (.iadd, 1) := by decide +kernel
theorem dJ6_bitCount_0f7a4_40 : decode cJ6_bitCount_0f7a4 40 = .ok (.istore_n 0, 1) := by decide +kernel
theorem dJ6_bitCount_0f7a4_41 : decode cJ6_bitCount_0f7a4 41 = .ok (.iload_n 0, 1) := by decide +kernel
theorem dJ6_bitCount_0f7a4_42 : decode cJ6_bitCount_0f7a4 42 = .ok (.iload_n 0, 1) := by decide +kernel
theorem dJ6_bitCount_0f7a4_43 : decode cJ6_bitCount_0f7a4 43 = .ok (.bipush 16, 2) := by decide +kernel
theorem dJ6_bitCount_0f7a4_45 : decode cJ6_bitCount_0f7a4 45 = .ok (.iushr, 1) := by decide +kernel
theorem dJ6_bitCount_0f7a4_46 : decode cJ6_bitCount_0f7a4 46 = .ok (.iadd, 1) := by decide +kernel
theorem dJ6_bitCount_0f7a4_47 : decode cJ6_bitCount_0f7a4 47 = .ok (.istore_n 0, 1) := by decide +kernel
theorem dJ6_bitCount_0f7a4_48 : decode cJ6_bitCount_0f7a4 48 = .ok (.iload_n 0, 1) := by decide +kernel
theorem dJ6_bitCount_0f7a4_49 : decode cJ6_bitCount_0f7a4 49 = .ok (.bipush 63, 2) := by decide +kernel
theorem dJ6_bitCount_0f7a4_51 : decode cJ6_bitCount_0f7a4 51 = .ok (.iand, 1) := by decide +kernel
theorem dJ6_bitCount_0f7a4_52 : decode cJ6_bitCount_0f7a4 52 = .ok (.ireturn, 1) := by decide +kernel
set_option maxHeartbeats 4000000 in
set_option maxRecDepth 100000 in
theorem g_J6_bitCount_0f7a4 {E : fh_E} {M : fh_M} (C : fh_Cx E M cJ6_bitCount_0f7a4 1 RJ6 ((some FieldType.int)) rm_J6_bitCount_0f7a4) (Hr : fh_Rt E M) (a1 : Int32) (σ2 : fh_S) : fh_Go E M 1 fh_vI 0 [(0, .int a1)] [] σ2 (f_J6_bitCount_0f7a4 a1 σ2) := by
  have hok := fh_cok C
  refine go_iload_n C 0 rfl rfl dJ6_bitCount_0f7a4_0 ?_
  refine go_iload_n C 0 rfl rfl dJ6_bitCount_0f7a4_1 ?_
  refine go_iconst C (1 : Int32) dJ6_bitCount_0f7a4_2 rfl ?_
  refine go_iushr C dJ6_bitCount_0f7a4_3 ?_
  refine go_ldcw C q_309 dJ6_bitCount_0f7a4_4 ?_
  refine go_iand C dJ6_bitCount_0f7a4_7 ?_
  refine go_isub C dJ6_bitCount_0f7a4_8 ?_
  refine go_istore_n C [(0, .int (a1 - (((a1.toUInt32 >>> (((1 : Int32)).toUInt32 &&& Int32.toUInt32 31)).toInt32) &&& ((1431655765 : Int32)))))] rfl rfl (by decide) dJ6_bitCount_0f7a4_9 ?_
  refine go_iload_n C 0 rfl rfl dJ6_bitCount_0f7a4_10 ?_
  refine go_ldcw C q_310 dJ6_bitCount_0f7a4_11 ?_
  refine go_iand C dJ6_bitCount_0f7a4_14 ?_
  refine go_iload_n C 0 rfl rfl dJ6_bitCount_0f7a4_15 ?_
  refine go_iconst C (2 : Int32) dJ6_bitCount_0f7a4_16 rfl ?_
  refine go_iushr C dJ6_bitCount_0f7a4_17 ?_
  refine go_ldcw C q_310 dJ6_bitCount_0f7a4_18 ?_
  refine go_iand C dJ6_bitCount_0f7a4_21 ?_
  refine go_iadd C dJ6_bitCount_0f7a4_22 ?_
  refine go_istore_n C [(0, .int (((a1 - (((a1.toUInt32 >>> (((1 : Int32)).toUInt32 &&& Int32.toUInt32 31)).toInt32) &&& ((1431655765 : Int32)))) &&& ((858993459 : Int32))) + ((((a1 - (((a1.toUInt32 >>> (((1 : Int32)).toUInt32 &&& Int32.toUInt32 31)).toInt32) &&& ((1431655765 : Int32)))).toUInt32 >>> (((2 : Int32)).toUInt32 &&& Int32.toUInt32 31)).toInt32) &&& ((858993459 : Int32)))))] rfl rfl (by decide) dJ6_bitCount_0f7a4_23 ?_
  refine go_iload_n C 0 rfl rfl dJ6_bitCount_0f7a4_24 ?_
  refine go_iload_n C 0 rfl rfl dJ6_bitCount_0f7a4_25 ?_
  refine go_iconst C (4 : Int32) dJ6_bitCount_0f7a4_26 rfl ?_
  refine go_iushr C dJ6_bitCount_0f7a4_27 ?_
  refine go_iadd C dJ6_bitCount_0f7a4_28 ?_
  refine go_ldcw C q_311 dJ6_bitCount_0f7a4_29 ?_
  refine go_iand C dJ6_bitCount_0f7a4_32 ?_
  refine go_istore_n C [(0, .int (((((a1 - (((a1.toUInt32 >>> (((1 : Int32)).toUInt32 &&& Int32.toUInt32 31)).toInt32) &&& ((1431655765 : Int32)))) &&& ((858993459 : Int32))) + ((((a1 - (((a1.toUInt32 >>> (((1 : Int32)).toUInt32 &&& Int32.toUInt32 31)).toInt32) &&& ((1431655765 : Int32)))).toUInt32 >>> (((2 : Int32)).toUInt32 &&& Int32.toUInt32 31)).toInt32) &&& ((858993459 : Int32)))) + (((((a1 - (((a1.toUInt32 >>> (((1 : Int32)).toUInt32 &&& Int32.toUInt32 31)).toInt32) &&& ((1431655765 : Int32)))) &&& ((858993459 : Int32))) + ((((a1 - (((a1.toUInt32 >>> (((1 : Int32)).toUInt32 &&& Int32.toUInt32 31)).toInt32) &&& ((1431655765 : Int32)))).toUInt32 >>> (((2 : Int32)).toUInt32 &&& Int32.toUInt32 31)).toInt32) &&& ((858993459 : Int32)))).toUInt32 >>> (((4 : Int32)).toUInt32 &&& Int32.toUInt32 31)).toInt32)) &&& ((252645135 : Int32))))] rfl rfl (by decide) dJ6_bitCount_0f7a4_33 ?_
  refine go_iload_n C 0 rfl rfl dJ6_bitCount_0f7a4_34 ?_
  refine go_iload_n C 0 rfl rfl dJ6_bitCount_0f7a4_35 ?_
  refine go_bipush C (8 : Int32) dJ6_bitCount_0f7a4_36 rfl ?_
  refine go_iushr C dJ6_bitCount_0f7a4_38 ?_
  refine go_iadd C dJ6_bitCount_0f7a4_39 ?_
  refine go_istore_n C [(0, .int ((((((a1 - (((a1.toUInt32 >>> (((1 : Int32)).toUInt32 &&& Int32.toUInt32 31)).toInt32) &&& ((1431655765 : Int32)))) &&& ((858993459 : Int32))) + ((((a1 - (((a1.toUInt32 >>> (((1 : Int32)).toUInt32 &&& Int32.toUInt32 31)).toInt32) &&& ((1431655765 : Int32)))).toUInt32 >>> (((2 : Int32)).toUInt32 &&& Int32.toUInt32 31)).toInt32) &&& ((858993459 : Int32)))) + (((((a1 - (((a1.toUInt32 >>> (((1 : Int32)).toUInt32 &&& Int32.toUInt32 31)).toInt32) &&& ((1431655765 : Int32)))) &&& ((858993459 : Int32))) + ((((a1 - (((a1.toUInt32 >>> (((1 : Int32)).toUInt32 &&& Int32.toUInt32 31)).toInt32) &&& ((1431655765 : Int32)))).toUInt32 >>> (((2 : Int32)).toUInt32 &&& Int32.toUInt32 31)).toInt32) &&& ((858993459 : Int32)))).toUInt32 >>> (((4 : Int32)).toUInt32 &&& Int32.toUInt32 31)).toInt32)) &&& ((252645135 : Int32))) + (((((((a1 - (((a1.toUInt32 >>> (((1 : Int32)).toUInt32 &&& Int32.toUInt32 31)).toInt32) &&& ((1431655765 : Int32)))) &&& ((858993459 : Int32))) + ((((a1 - (((a1.toUInt32 >>> (((1 : Int32)).toUInt32 &&& Int32.toUInt32 31)).toInt32) &&& ((1431655765 : Int32)))).toUInt32 >>> (((2 : Int32)).toUInt32 &&& Int32.toUInt32 31)).toInt32) &&& ((858993459 : Int32)))) + (((((a1 - (((a1.toUInt32 >>> (((1 : Int32)).toUInt32 &&& Int32.toUInt32 31)).toInt32) &&& ((1431655765 : Int32)))) &&& ((858993459 : Int32))) + ((((a1 - (((a1.toUInt32 >>> (((1 : Int32)).toUInt32 &&& Int32.toUInt32 31)).toInt32) &&& ((1431655765 : Int32)))).toUInt32 >>> (((2 : Int32)).toUInt32 &&& Int32.toUInt32 31)).toInt32) &&& ((858993459 : Int32)))).toUInt32 >>> (((4 : Int32)).toUInt32 &&& Int32.toUInt32 31)).toInt32)) &&& ((252645135 : Int32))).toUInt32 >>> (((8 : Int32)).toUInt32 &&& Int32.toUInt32 31)).toInt32)))] rfl rfl (by decide) dJ6_bitCount_0f7a4_40 ?_
  refine go_iload_n C 0 rfl rfl dJ6_bitCount_0f7a4_41 ?_
  refine go_iload_n C 0 rfl rfl dJ6_bitCount_0f7a4_42 ?_
  refine go_bipush C (16 : Int32) dJ6_bitCount_0f7a4_43 rfl ?_
  refine go_iushr C dJ6_bitCount_0f7a4_45 ?_
  refine go_iadd C dJ6_bitCount_0f7a4_46 ?_
  refine go_istore_n C [(0, .int (((((((a1 - (((a1.toUInt32 >>> (((1 : Int32)).toUInt32 &&& Int32.toUInt32 31)).toInt32) &&& ((1431655765 : Int32)))) &&& ((858993459 : Int32))) + ((((a1 - (((a1.toUInt32 >>> (((1 : Int32)).toUInt32 &&& Int32.toUInt32 31)).toInt32) &&& ((1431655765 : Int32)))).toUInt32 >>> (((2 : Int32)).toUInt32 &&& Int32.toUInt32 31)).toInt32) &&& ((858993459 : Int32)))) + (((((a1 - (((a1.toUInt32 >>> (((1 : Int32)).toUInt32 &&& Int32.toUInt32 31)).toInt32) &&& ((1431655765 : Int32)))) &&& ((858993459 : Int32))) + ((((a1 - (((a1.toUInt32 >>> (((1 : Int32)).toUInt32 &&& Int32.toUInt32 31)).toInt32) &&& ((1431655765 : Int32)))).toUInt32 >>> (((2 : Int32)).toUInt32 &&& Int32.toUInt32 31)).toInt32) &&& ((858993459 : Int32)))).toUInt32 >>> (((4 : Int32)).toUInt32 &&& Int32.toUInt32 31)).toInt32)) &&& ((252645135 : Int32))) + (((((((a1 - (((a1.toUInt32 >>> (((1 : Int32)).toUInt32 &&& Int32.toUInt32 31)).toInt32) &&& ((1431655765 : Int32)))) &&& ((858993459 : Int32))) + ((((a1 - (((a1.toUInt32 >>> (((1 : Int32)).toUInt32 &&& Int32.toUInt32 31)).toInt32) &&& ((1431655765 : Int32)))).toUInt32 >>> (((2 : Int32)).toUInt32 &&& Int32.toUInt32 31)).toInt32) &&& ((858993459 : Int32)))) + (((((a1 - (((a1.toUInt32 >>> (((1 : Int32)).toUInt32 &&& Int32.toUInt32 31)).toInt32) &&& ((1431655765 : Int32)))) &&& ((858993459 : Int32))) + ((((a1 - (((a1.toUInt32 >>> (((1 : Int32)).toUInt32 &&& Int32.toUInt32 31)).toInt32) &&& ((1431655765 : Int32)))).toUInt32 >>> (((2 : Int32)).toUInt32 &&& Int32.toUInt32 31)).toInt32) &&& ((858993459 : Int32)))).toUInt32 >>> (((4 : Int32)).toUInt32 &&& Int32.toUInt32 31)).toInt32)) &&& ((252645135 : Int32))).toUInt32 >>> (((8 : Int32)).toUInt32 &&& Int32.toUInt32 31)).toInt32)) + ((((((((a1 - (((a1.toUInt32 >>> (((1 : Int32)).toUInt32 &&& Int32.toUInt32 31)).toInt32) &&& ((1431655765 : Int32)))) &&& ((858993459 : Int32))) + ((((a1 - (((a1.toUInt32 >>> (((1 : Int32)).toUInt32 &&& Int32.toUInt32 31)).toInt32) &&& ((1431655765 : Int32)))).toUInt32 >>> (((2 : Int32)).toUInt32 &&& Int32.toUInt32 31)).toInt32) &&& ((858993459 : Int32)))) + (((((a1 - (((a1.toUInt32 >>> (((1 : Int32)).toUInt32 &&& Int32.toUInt32 31)).toInt32) &&& ((1431655765 : Int32)))) &&& ((858993459 : Int32))) + ((((a1 - (((a1.toUInt32 >>> (((1 : Int32)).toUInt32 &&& Int32.toUInt32 31)).toInt32) &&& ((1431655765 : Int32)))).toUInt32 >>> (((2 : Int32)).toUInt32 &&& Int32.toUInt32 31)).toInt32) &&& ((858993459 : Int32)))).toUInt32 >>> (((4 : Int32)).toUInt32 &&& Int32.toUInt32 31)).toInt32)) &&& ((252645135 : Int32))) + (((((((a1 - (((a1.toUInt32 >>> (((1 : Int32)).toUInt32 &&& Int32.toUInt32 31)).toInt32) &&& ((1431655765 : Int32)))) &&& ((858993459 : Int32))) + ((((a1 - (((a1.toUInt32 >>> (((1 : Int32)).toUInt32 &&& Int32.toUInt32 31)).toInt32) &&& ((1431655765 : Int32)))).toUInt32 >>> (((2 : Int32)).toUInt32 &&& Int32.toUInt32 31)).toInt32) &&& ((858993459 : Int32)))) + (((((a1 - (((a1.toUInt32 >>> (((1 : Int32)).toUInt32 &&& Int32.toUInt32 31)).toInt32) &&& ((1431655765 : Int32)))) &&& ((858993459 : Int32))) + ((((a1 - (((a1.toUInt32 >>> (((1 : Int32)).toUInt32 &&& Int32.toUInt32 31)).toInt32) &&& ((1431655765 : Int32)))).toUInt32 >>> (((2 : Int32)).toUInt32 &&& Int32.toUInt32 31)).toInt32) &&& ((858993459 : Int32)))).toUInt32 >>> (((4 : Int32)).toUInt32 &&& Int32.toUInt32 31)).toInt32)) &&& ((252645135 : Int32))).toUInt32 >>> (((8 : Int32)).toUInt32 &&& Int32.toUInt32 31)).toInt32)).toUInt32 >>> (((16 : Int32)).toUInt32 &&& Int32.toUInt32 31)).toInt32)))] rfl rfl (by decide) dJ6_bitCount_0f7a4_47 ?_
  refine go_iload_n C 0 rfl rfl dJ6_bitCount_0f7a4_48 ?_
  refine go_bipush C (63 : Int32) dJ6_bitCount_0f7a4_49 rfl ?_
  refine go_iand C dJ6_bitCount_0f7a4_51 ?_
  exact go_iret C Hr rfl dJ6_bitCount_0f7a4_52
theorem m_J6_bitCount_0f7a4 (E : fh_E) (l : Launch) (hok : fh_ok E) (a1 : Int32) (σ2 : fh_S) : fh_Met E l yJ6_bitCount_0f7a4 cJ6_bitCount_0f7a4 1 ((some FieldType.int)) rm_J6_bitCount_0f7a4 fh_vI [.int a1] σ2 (f_J6_bitCount_0f7a4 a1 σ2) := fh_met hok (by decide +kernel) (Nat.le_of_ble_eq_true rfl) (fun M _ C Hr => g_J6_bitCount_0f7a4 C Hr a1 σ2)
def f_X0_alikeSet_J74 (r7 : Int32 → Int32 → Int32 → fh_S → Option (Int32 × fh_S)) (x5 : Int32) : Int32 → Int32 → fh_S → Option (Int32 × fh_S) := fun x18 x19 σ20 => r7 x18 x19 (x5 + 1) σ20
def f_X0_alikeSet_J64 (k1 : Nat) (x5 : Int32) (j21 : Int32 → Int32 → fh_S → Option (Int32 × fh_S)) (r13 : Int32) : fh_S → Option (Int32 × fh_S) := fun σ22 => (fh_gr 0 k1 1).bind fun k23 => (fh_ld σ22 k23 x5).bind fun v24 => j21 r13 v24 σ22
def f_X0_alikeSet_B8 (k1 : Nat) (r7 : Int32 → Int32 → Int32 → fh_S → Option (Int32 × fh_S)) : Int32 → Int32 → Int32 → fh_S → Option (Int32 × fh_S) := fun x3 x4 x5 σ6 => (fh_gi σ6 0 k1 9).bind fun v8 => if v8 ≤ x5 then some (x3, σ6) else (fh_gr 0 k1 1).bind fun k9 => (fh_gr 0 k1 1).bind fun k10 => (fh_ld σ6 k10 x5).bind fun v11 => fh_cb (f_X0_setWhere k1 k9 v11 σ6) fun r13 σ12 => fh_cb (f_J6_bitCount_0f7a4 r13 σ12) fun r15 σ14 => fh_cb (f_J6_bitCount_0f7a4 x3 σ14) fun r17 σ16 => fh_jn (f_X0_alikeSet_J74 r7 x5) (fun j21 => fh_jn (f_X0_alikeSet_J64 k1 x5 j21 r13) (fun j25 => if 0 < (r15 - r17) then j25 σ16 else if (r15 - r17) = 0 then (fh_gr 0 k1 1).bind fun k26 => (fh_ld σ16 k26 x5).bind fun v27 => if x4 ≤ v27 then j21 x3 x4 σ16 else j25 σ16 else j21 x3 x4 σ16))
def f_X0_alikeSet (k1 : Nat) (σ2 : fh_S) : Option (Int32 × fh_S) := fh_ob 0 k1 (fh_fx (ρ := Int32 → Int32 → Int32 → fh_S → Option (Int32 × fh_S)) (fun _ _ _ _ => none) (f_X0_alikeSet_B8 k1) fh_fu ((0 : Int32)) ((720 : Int32)) ((0 : Int32)) σ2)
abbrev rm_X0_alikeSet : Room := { frames := 1, cells := 0, slots := 0, locals := 24 }
theorem pd_X0_alikeSet : yX0_alikeSet.cls ≠ "java/lang/invoke/MethodHandle" ∧ yX0_alikeSet.cls ≠ "java/lang/invoke/VarHandle" ∧ (parseMethodDescriptor yX0_alikeSet.desc).map (fun d => d.parameters.length) = some 0 := by decide +kernel
theorem dX0_alikeSet_0 : decode cX0_alikeSet 0 = .ok (.iconst 0, 1) := by decide +kernel
theorem dX0_alikeSet_1 : decode cX0_alikeSet 1 = .ok (.istore_n 1, 1) := by decide +kernel
theorem dX0_alikeSet_2 : decode cX0_alikeSet 2 = .ok (.sipush 720, 3) := by decide +kernel
theorem dX0_alikeSet_5 : decode cX0_alikeSet 5 = .ok (.istore_n 2, 1) := by decide +kernel
theorem dX0_alikeSet_6 : decode cX0_alikeSet 6 = .ok (.iconst 0, 1) := by decide +kernel
theorem dX0_alikeSet_7 : decode cX0_alikeSet 7 = .ok (.istore_n 3, 1) := by decide +kernel
theorem dX0_alikeSet_8 : decode cX0_alikeSet 8 = .ok (.iload_n 3, 1) := by decide +kernel
theorem dX0_alikeSet_9 : decode cX0_alikeSet 9 = .ok (.aload_n 0, 1) := by decide +kernel
theorem dX0_alikeSet_10 : decode cX0_alikeSet 10 = .ok (.getfield 39, 3) := by decide +kernel
theorem dX0_alikeSet_13 : decode cX0_alikeSet 13 = .ok (.if_icmp .ge 67, 3) := by decide +kernel
theorem dX0_alikeSet_16 : decode cX0_alikeSet 16 = .ok (.aload_n 0, 1) := by decide +kernel
theorem dX0_alikeSet_17 : decode cX0_alikeSet 17 = .ok (.aload_n 0, 1) := by decide +kernel
theorem dX0_alikeSet_18 : decode cX0_alikeSet 18 = .ok (.getfield 15, 3) := by decide +kernel
theorem dX0_alikeSet_21 : decode cX0_alikeSet 21 = .ok (.aload_n 0, 1) := by decide +kernel
theorem dX0_alikeSet_22 : decode cX0_alikeSet 22 = .ok (.getfield 15, 3) := by decide +kernel
theorem dX0_alikeSet_25 : decode cX0_alikeSet 25 = .ok (.iload_n 3, 1) := by decide +kernel
theorem dX0_alikeSet_26 : decode cX0_alikeSet 26 = .ok (.iaload, 1) := by decide +kernel
theorem dX0_alikeSet_27 : decode cX0_alikeSet 27 = .ok (.invokevirtual 110, 3) := by decide +kernel
theorem dX0_alikeSet_30 : decode cX0_alikeSet 30 = .ok (.istore 4, 2) := by decide +kernel
theorem dX0_alikeSet_32 : decode cX0_alikeSet 32 = .ok (.iload 4, 2) := by decide +kernel
theorem dX0_alikeSet_34 : decode cX0_alikeSet 34 = .ok (.invokestatic 114, 3) := by decide +kernel
theorem dX0_alikeSet_37 : decode cX0_alikeSet 37 = .ok (.iload_n 1, 1) := by decide +kernel
theorem dX0_alikeSet_38 : decode cX0_alikeSet 38 = .ok (.invokestatic 114, 3) := by decide +kernel
theorem dX0_alikeSet_41 : decode cX0_alikeSet 41 = .ok (.isub, 1) := by decide +kernel
theorem dX0_alikeSet_42 : decode cX0_alikeSet 42 = .ok (.istore 5, 2) := by decide +kernel
theorem dX0_alikeSet_44 : decode cX0_alikeSet 44 = .ok (.iload 5, 2) := by decide +kernel
theorem dX0_alikeSet_46 : decode cX0_alikeSet 46 = .ok (.ifCond .gt 18, 3) := by decide +kernel
theorem dX0_alikeSet_49 : decode cX0_alikeSet 49 = .ok (.iload 5, 2) := by decide +kernel
theorem dX0_alikeSet_51 : decode cX0_alikeSet 51 = .ok (.ifCond .ne 23, 3) := by decide +kernel
theorem dX0_alikeSet_54 : decode cX0_alikeSet 54 = .ok (.aload_n 0, 1) := by decide +kernel
theorem dX0_alikeSet_55 : decode cX0_alikeSet 55 = .ok (.getfield 15, 3) := by decide +kernel
theorem dX0_alikeSet_58 : decode cX0_alikeSet 58 = .ok (.iload_n 3, 1) := by decide +kernel
theorem dX0_alikeSet_59 : decode cX0_alikeSet 59 = .ok (.iaload, 1) := by decide +kernel
theorem dX0_alikeSet_60 : decode cX0_alikeSet 60 = .ok (.iload_n 2, 1) := by decide +kernel
theorem dX0_alikeSet_61 : decode cX0_alikeSet 61 = .ok (.if_icmp .ge 13, 3) := by decide +kernel
theorem dX0_alikeSet_64 : decode cX0_alikeSet 64 = .ok (.iload 4, 2) := by decide +kernel
theorem dX0_alikeSet_66 : decode cX0_alikeSet 66 = .ok (.istore_n 1, 1) := by decide +kernel
theorem dX0_alikeSet_67 : decode cX0_alikeSet 67 = .ok (.aload_n 0, 1) := by decide +kernel
theorem dX0_alikeSet_68 : decode cX0_alikeSet 68 = .ok (.getfield 15, 3) := by decide +kernel
theorem dX0_alikeSet_71 : decode cX0_alikeSet 71 = .ok (.iload_n 3, 1) := by decide +kernel
theorem dX0_alikeSet_72 : decode cX0_alikeSet 72 = .ok (.iaload, 1) := by decide +kernel
theorem dX0_alikeSet_73 : decode cX0_alikeSet 73 = .ok (.istore_n 2, 1) := by decide +kernel
theorem dX0_alikeSet_74 : decode cX0_alikeSet 74 = .ok (.iinc 3 1, 3) := by decide +kernel
theorem dX0_alikeSet_77 : decode cX0_alikeSet 77 = .ok (.goto (-69), 3) := by decide +kernel
theorem dX0_alikeSet_80 : decode cX0_alikeSet 80 = .ok (.iload_n 1, 1) := by decide +kernel
theorem dX0_alikeSet_81 : decode cX0_alikeSet 81 = .ok (.ireturn, 1) := by decide +kernel
set_option maxHeartbeats 4000000 in
set_option maxRecDepth 100000 in
theorem g_X0_alikeSet {E : fh_E} {M : fh_M} (C : fh_Cx E M cX0_alikeSet 6 RX0 ((some FieldType.int)) rm_X0_alikeSet) (Hr : fh_Rt E M) (k1 : Nat) (σ2 : fh_S) : fh_Go E M 6 fh_vI 0 [(0, .ref (fh_ad E k1))] [] σ2 (f_X0_alikeSet k1 σ2) := by
  have hok := fh_cok C
  refine go_ob ?_
  refine go_iconst C (0 : Int32) dX0_alikeSet_0 rfl ?_
  refine go_istore_n C [(1, .int ((0 : Int32))), (0, .ref (fh_ad E k1))] rfl rfl (by decide) dX0_alikeSet_1 ?_
  refine go_sipush C (720 : Int32) dX0_alikeSet_2 rfl ?_
  refine go_istore_n C [(2, .int ((720 : Int32))), (1, .int ((0 : Int32))), (0, .ref (fh_ad E k1))] rfl rfl (by decide) dX0_alikeSet_5 ?_
  refine go_iconst C (0 : Int32) dX0_alikeSet_6 rfl ?_
  refine go_istore_n C [(3, .int ((0 : Int32))), (2, .int ((720 : Int32))), (1, .int ((0 : Int32))), (0, .ref (fh_ad E k1))] rfl rfl (by decide) dX0_alikeSet_7 ?_
  refine go_lv [3, 2, 1, 0] (lv' := [(0, .ref (fh_ad E k1)), (1, .int ((0 : Int32))), (2, .int ((720 : Int32))), (3, .int ((0 : Int32)))]) rfl ?_
  refine go_fx (fun (r7 : Int32 → Int32 → Int32 → fh_S → Option (Int32 × fh_S)) => ∀ (x3 : Int32) (x4 : Int32) (x5 : Int32) (σ6 : fh_S), fh_Go E M 6 fh_vI 8 [(0, .ref (fh_ad E k1)), (1, .int x3), (2, .int x4), (3, .int x5)] [] σ6 (r7 x3 x4 x5 σ6)) ?_ ?_ fh_fu ((0 : Int32)) ((720 : Int32)) ((0 : Int32)) σ2
  · intro x3 x4 x5 σ6
    exact go_none
  · intro r7 hr7 x3 x4 x5 σ6
    refine go_iload_n C 3 rfl rfl dX0_alikeSet_8 ?_
    refine go_aload_n C 0 rfl rfl dX0_alikeSet_9 ?_
    refine go_gi (ci := 0) (j := 9) C fh_in0 rfl (by decide) rfl q_46 dX0_alikeSet_10 (fun v8 => ?_)
    refine go_icmp_ge (tgt := 80) C dX0_alikeSet_13 rfl (fun _ => ?_) (fun _ => ?_)
    · refine go_iload_n C 1 rfl rfl dX0_alikeSet_80 ?_
      exact go_iret C Hr rfl dX0_alikeSet_81
    · refine go_aload_n C 0 rfl rfl dX0_alikeSet_16 ?_
      refine go_aload_n C 0 rfl rfl dX0_alikeSet_17 ?_
      refine go_gr (ci := 0) (j := 1) C fh_in0 rfl (by decide) rfl q_30 dX0_alikeSet_18 (fun k9 => ?_)
      refine go_aload_n C 0 rfl rfl dX0_alikeSet_21 ?_
      refine go_gr (ci := 0) (j := 1) C fh_in0 rfl (by decide) rfl q_30 dX0_alikeSet_22 (fun k10 => ?_)
      refine go_iload_n C 3 rfl rfl dX0_alikeSet_25 ?_
      refine go_iald C dX0_alikeSet_26 (fun v11 => ?_)
      refine go_callVI C (st := []) [.ref (fh_ad E k9), .int v11] (m_X0_setWhere E _ hok k1 k9 v11 σ6) (fun _ h => fh_ob_ok h) rfl rfl ⟨q_286, q_288, qs_2, q_2, q_289⟩ pd_X0_setWhere rfl ⟨⟨Nat.le_of_ble_eq_true rfl, Nat.le_of_ble_eq_true rfl⟩, rfl, rfl⟩ (Nat.le_of_ble_eq_true rfl) dX0_alikeSet_27 (fun r13 σ12 => ?_)
      refine go_istore C [(4, .int r13), (0, .ref (fh_ad E k1)), (1, .int x3), (2, .int x4), (3, .int x5)] rfl (by decide) dX0_alikeSet_30 ?_
      refine go_iload C 0 rfl dX0_alikeSet_32 ?_
      refine go_callSI C (st := []) [.int r13] (m_J6_bitCount_0f7a4 E _ hok r13 σ12) rfl ⟨q_306, q_307, q_8, q_308⟩ pd_J6_bitCount_0f7a4 rfl ⟨⟨Nat.le_of_ble_eq_true rfl, Nat.le_of_ble_eq_true rfl⟩, rfl, rfl⟩ (Nat.le_of_ble_eq_true rfl) dX0_alikeSet_34 (fun r15 σ14 => ?_)
      refine go_iload_n C 2 rfl rfl dX0_alikeSet_37 ?_
      refine go_callSI C (st := [.int r15]) [.int x3] (m_J6_bitCount_0f7a4 E _ hok x3 σ14) rfl ⟨q_306, q_307, q_8, q_308⟩ pd_J6_bitCount_0f7a4 rfl ⟨⟨Nat.le_of_ble_eq_true rfl, Nat.le_of_ble_eq_true rfl⟩, rfl, rfl⟩ (Nat.le_of_ble_eq_true rfl) dX0_alikeSet_38 (fun r17 σ16 => ?_)
      refine go_isub C dX0_alikeSet_41 ?_
      refine go_istore C [(5, .int (r15 - r17)), (4, .int r13), (0, .ref (fh_ad E k1)), (1, .int x3), (2, .int x4), (3, .int x5)] rfl (by decide) dX0_alikeSet_42 ?_
      refine go_iload C 0 rfl dX0_alikeSet_44 ?_
      refine go_jn (fun (j21 : Int32 → Int32 → fh_S → Option (Int32 × fh_S)) => ∀ (x18 : Int32) (x19 : Int32) (σ20 : fh_S), fh_Go E M 6 fh_vI 74 [(0, .ref (fh_ad E k1)), (1, .int x18), (2, .int x19), (3, .int x5)] [] σ20 (j21 x18 x19 σ20)) ?_ (fun j21 hj21 => ?_)
      · intro x18 x19 σ20
        refine go_iinc C (x5 + 1) 3 [(3, .int (x5 + 1)), (0, .ref (fh_ad E k1)), (1, .int x18), (2, .int x19)] rfl rfl rfl (by decide) dX0_alikeSet_74 ?_
        refine go_goto C 8 dX0_alikeSet_77 rfl ?_
        refine go_lv [1, 2, 3, 0] (lv' := [(0, .ref (fh_ad E k1)), (1, .int x18), (2, .int x19), (3, .int (x5 + 1))]) rfl ?_
        exact hr7 x18 x19 (x5 + 1) σ20
      refine go_jn (fun (j25 : fh_S → Option (Int32 × fh_S)) => ∀ (σ22 : fh_S), fh_Go E M 6 fh_vI 64 [(0, .ref (fh_ad E k1)), (3, .int x5), (4, .int r13)] [] σ22 (j25 σ22)) ?_ (fun j25 hj25 => ?_)
      · intro σ22
        refine go_iload C 2 rfl dX0_alikeSet_64 ?_
        refine go_istore_n C [(1, .int r13), (0, .ref (fh_ad E k1)), (3, .int x5), (4, .int r13)] rfl rfl (by decide) dX0_alikeSet_66 ?_
        refine go_aload_n C 1 rfl rfl dX0_alikeSet_67 ?_
        refine go_gr (ci := 0) (j := 1) C fh_in0 rfl (by decide) rfl q_30 dX0_alikeSet_68 (fun k23 => ?_)
        refine go_iload_n C 2 rfl rfl dX0_alikeSet_71 ?_
        refine go_iald C dX0_alikeSet_72 (fun v24 => ?_)
        refine go_istore_n C [(2, .int v24), (1, .int r13), (0, .ref (fh_ad E k1)), (3, .int x5), (4, .int r13)] rfl rfl (by decide) dX0_alikeSet_73 ?_
        refine go_lv [2, 1, 0, 3] (lv' := [(0, .ref (fh_ad E k1)), (1, .int r13), (2, .int v24), (3, .int x5)]) rfl ?_
        exact hj21 r13 v24 σ22
      refine go_if_gt (tgt := 64) C dX0_alikeSet_46 rfl (fun _ => ?_) (fun _ => ?_)
      · refine go_lv [2, 5, 1] (lv' := [(0, .ref (fh_ad E k1)), (3, .int x5), (4, .int r13)]) rfl ?_
        exact hj25 σ16
      · refine go_iload C 0 rfl dX0_alikeSet_49 ?_
        refine go_if_ne (tgt := 74) C dX0_alikeSet_51 rfl (fun _ => ?_) (fun _ => ?_)
        · refine go_lv [2, 3, 4, 5] (lv' := [(0, .ref (fh_ad E k1)), (1, .int x3), (2, .int x4), (3, .int x5)]) rfl ?_
          exact hj21 x3 x4 σ16
        · refine go_aload_n C 2 rfl rfl dX0_alikeSet_54 ?_
          refine go_gr (ci := 0) (j := 1) C fh_in0 rfl (by decide) rfl q_30 dX0_alikeSet_55 (fun k26 => ?_)
          refine go_iload_n C 5 rfl rfl dX0_alikeSet_58 ?_
          refine go_iald C dX0_alikeSet_59 (fun v27 => ?_)
          refine go_iload_n C 4 rfl rfl dX0_alikeSet_60 ?_
          refine go_icmp_ge (tgt := 74) C dX0_alikeSet_61 rfl (fun _ => ?_) (fun _ => ?_)
          · refine go_lv [2, 3, 4, 5] (lv' := [(0, .ref (fh_ad E k1)), (1, .int x3), (2, .int x4), (3, .int x5)]) rfl ?_
            exact hj21 x3 x4 σ16
          · refine go_lv [2, 5, 1] (lv' := [(0, .ref (fh_ad E k1)), (3, .int x5), (4, .int r13)]) rfl ?_
            exact hj25 σ16
theorem m_X0_alikeSet (E : fh_E) (l : Launch) (hok : fh_ok E) (k1 : Nat) (σ2 : fh_S) : fh_Met E l yX0_alikeSet cX0_alikeSet 6 ((some FieldType.int)) rm_X0_alikeSet fh_vI [.ref (fh_ad E k1)] σ2 (f_X0_alikeSet k1 σ2) := fh_met hok (by decide +kernel) (Nat.le_of_ble_eq_true rfl) (fun M _ C Hr => g_X0_alikeSet C Hr k1 σ2)
end
section
def f_X0_waySet_B12 (k1 : Nat) (r10 : Int32 → Int32 → Int32 → fh_S → Option (Int32 × fh_S)) : Int32 → Int32 → Int32 → fh_S → Option (Int32 × fh_S) := fun x6 x7 x8 σ9 => (fh_gi σ9 0 k1 9).bind fun v11 => if v11 ≤ x8 then some (x6, σ9) else (fh_gr 0 k1 2).bind fun k12 => (fh_ld σ9 k12 x7).bind fun v13 => r10 (x6 ||| (((1 : Int32)) <<< (x7 &&& 31))) v13 (x8 + 1) σ9
def f_X0_waySet (k1 : Nat) (a2 : Int32) (σ3 : fh_S) : Option (Int32 × fh_S) := fh_ob 0 k1 ((fh_gr 0 k1 2).bind fun k4 => (fh_ld σ3 k4 a2).bind fun v5 => fh_fx (ρ := Int32 → Int32 → Int32 → fh_S → Option (Int32 × fh_S)) (fun _ _ _ _ => none) (f_X0_waySet_B12 k1) fh_fu ((0 : Int32)) v5 ((0 : Int32)) σ3)
abbrev rm_X0_waySet : Room := { frames := 0, cells := 0, slots := 0, locals := 0 }
theorem pd_X0_waySet : yX0_waySet.cls ≠ "java/lang/invoke/MethodHandle" ∧ yX0_waySet.cls ≠ "java/lang/invoke/VarHandle" ∧ (parseMethodDescriptor yX0_waySet.desc).map (fun d => d.parameters.length) = some 1 := by decide +kernel
theorem dX0_waySet_0 : decode cX0_waySet 0 = .ok (.iconst 0, 1) := by decide +kernel
theorem dX0_waySet_1 : decode cX0_waySet 1 = .ok (.istore_n 2, 1) := by decide +kernel
theorem dX0_waySet_2 : decode cX0_waySet 2 = .ok (.aload_n 0, 1) := by decide +kernel
theorem dX0_waySet_3 : decode cX0_waySet 3 = .ok (.getfield 18, 3) := by decide +kernel
theorem dX0_waySet_6 : decode cX0_waySet 6 = .ok (.iload_n 1, 1) := by decide +kernel
theorem dX0_waySet_7 : decode cX0_waySet 7 = .ok (.iaload, 1) := by decide +kernel
theorem dX0_waySet_8 : decode cX0_waySet 8 = .ok (.istore_n 3, 1) := by decide +kernel
theorem dX0_waySet_9 : decode cX0_waySet 9 = .ok (.iconst 0, 1) := by decide +kernel
theorem dX0_waySet_10 : decode cX0_waySet 10 = .ok (.istore 4, 2) := by decide +kernel
theorem dX0_waySet_12 : decode cX0_waySet 12 = .ok (.iload 4, 2) := by decide +kernel
theorem dX0_waySet_14 : decode cX0_waySet 14 = .ok (.aload_n 0, 1) := by decide +kernel
theorem dX0_waySet_15 : decode cX0_waySet 15 = .ok (.getfield 39, 3) := by decide +kernel
theorem dX0_waySet_18 : decode cX0_waySet 18 = .ok (.if_icmp .ge 22, 3) := by decide +kernel
theorem dX0_waySet_21 : decode cX0_waySet 21 = .ok (.iload_n 2, 1) := by decide +kernel
theorem dX0_waySet_22 : decode cX0_waySet 22 = .ok (.iconst 1, 1) := by decide +kernel
theorem dX0_waySet_23 : decode cX0_waySet 23 = .ok (.iload_n 3, 1) := by decide +kernel
theorem dX0_waySet_24 : decode cX0_waySet 24 = .ok (.ishl, 1) := by decide +kernel
theorem dX0_waySet_25 : decode cX0_waySet 25 = .ok (.ior, 1) := by decide +kernel
theorem dX0_waySet_26 : decode cX0_waySet 26 = .ok (.istore_n 2, 1) := by decide +kernel
theorem dX0_waySet_27 : decode cX0_waySet 27 = .ok (.aload_n 0, 1) := by decide +kernel
theorem dX0_waySet_28 : decode cX0_waySet 28 = .ok (.getfield 18, 3) := by decide +kernel
theorem dX0_waySet_31 : decode cX0_waySet 31 = .ok (.iload_n 3, 1) := by decide +kernel
theorem dX0_waySet_32 : decode cX0_waySet 32 = .ok (.iaload, 1) := by decide +kernel
theorem dX0_waySet_33 : decode cX0_waySet 33 = .ok (.istore_n 3, 1) := by decide +kernel
theorem dX0_waySet_34 : decode cX0_waySet 34 = .ok (.iinc 4 1, 3) := by decide +kernel
theorem dX0_waySet_37 : decode cX0_waySet 37 = .ok (.goto (-25), 3) := by decide +kernel
theorem dX0_waySet_40 : decode cX0_waySet 40 = .ok (.iload_n 2, 1) := by decide +kernel
theorem dX0_waySet_41 : decode cX0_waySet 41 = .ok (.ireturn, 1) := by decide +kernel
set_option maxHeartbeats 4000000 in
set_option maxRecDepth 100000 in
theorem g_X0_waySet {E : fh_E} {M : fh_M} (C : fh_Cx E M cX0_waySet 5 RX0 ((some FieldType.int)) rm_X0_waySet) (Hr : fh_Rt E M) (k1 : Nat) (a2 : Int32) (σ3 : fh_S) : fh_Go E M 5 fh_vI 0 [(0, .ref (fh_ad E k1)), (1, .int a2)] [] σ3 (f_X0_waySet k1 a2 σ3) := by
  have hok := fh_cok C
  refine go_ob ?_
  refine go_iconst C (0 : Int32) dX0_waySet_0 rfl ?_
  refine go_istore_n C [(2, .int ((0 : Int32))), (0, .ref (fh_ad E k1)), (1, .int a2)] rfl rfl (by decide) dX0_waySet_1 ?_
  refine go_aload_n C 1 rfl rfl dX0_waySet_2 ?_
  refine go_gr (ci := 0) (j := 2) C fh_in0 rfl (by decide) rfl q_33 dX0_waySet_3 (fun k4 => ?_)
  refine go_iload_n C 2 rfl rfl dX0_waySet_6 ?_
  refine go_iald C dX0_waySet_7 (fun v5 => ?_)
  refine go_istore_n C [(3, .int v5), (2, .int ((0 : Int32))), (0, .ref (fh_ad E k1)), (1, .int a2)] rfl rfl (by decide) dX0_waySet_8 ?_
  refine go_iconst C (0 : Int32) dX0_waySet_9 rfl ?_
  refine go_istore C [(4, .int ((0 : Int32))), (3, .int v5), (2, .int ((0 : Int32))), (0, .ref (fh_ad E k1)), (1, .int a2)] rfl (by decide) dX0_waySet_10 ?_
  refine go_lv [3, 2, 1, 0] (lv' := [(0, .ref (fh_ad E k1)), (2, .int ((0 : Int32))), (3, .int v5), (4, .int ((0 : Int32)))]) rfl ?_
  refine go_fx (fun (r10 : Int32 → Int32 → Int32 → fh_S → Option (Int32 × fh_S)) => ∀ (x6 : Int32) (x7 : Int32) (x8 : Int32) (σ9 : fh_S), fh_Go E M 5 fh_vI 12 [(0, .ref (fh_ad E k1)), (2, .int x6), (3, .int x7), (4, .int x8)] [] σ9 (r10 x6 x7 x8 σ9)) ?_ ?_ fh_fu ((0 : Int32)) v5 ((0 : Int32)) σ3
  · intro x6 x7 x8 σ9
    exact go_none
  · intro r10 hr10 x6 x7 x8 σ9
    refine go_iload C 3 rfl dX0_waySet_12 ?_
    refine go_aload_n C 0 rfl rfl dX0_waySet_14 ?_
    refine go_gi (ci := 0) (j := 9) C fh_in0 rfl (by decide) rfl q_46 dX0_waySet_15 (fun v11 => ?_)
    refine go_icmp_ge (tgt := 40) C dX0_waySet_18 rfl (fun _ => ?_) (fun _ => ?_)
    · refine go_iload_n C 1 rfl rfl dX0_waySet_40 ?_
      exact go_iret C Hr rfl dX0_waySet_41
    · refine go_iload_n C 1 rfl rfl dX0_waySet_21 ?_
      refine go_iconst C (1 : Int32) dX0_waySet_22 rfl ?_
      refine go_iload_n C 2 rfl rfl dX0_waySet_23 ?_
      refine go_ishl C dX0_waySet_24 ?_
      refine go_ior C dX0_waySet_25 ?_
      refine go_istore_n C [(2, .int (x6 ||| (((1 : Int32)) <<< (x7 &&& 31)))), (0, .ref (fh_ad E k1)), (3, .int x7), (4, .int x8)] rfl rfl (by decide) dX0_waySet_26 ?_
      refine go_aload_n C 1 rfl rfl dX0_waySet_27 ?_
      refine go_gr (ci := 0) (j := 2) C fh_in0 rfl (by decide) rfl q_33 dX0_waySet_28 (fun k12 => ?_)
      refine go_iload_n C 2 rfl rfl dX0_waySet_31 ?_
      refine go_iald C dX0_waySet_32 (fun v13 => ?_)
      refine go_istore_n C [(3, .int v13), (2, .int (x6 ||| (((1 : Int32)) <<< (x7 &&& 31)))), (0, .ref (fh_ad E k1)), (4, .int x8)] rfl rfl (by decide) dX0_waySet_33 ?_
      refine go_iinc C (x8 + 1) 3 [(4, .int (x8 + 1)), (3, .int v13), (2, .int (x6 ||| (((1 : Int32)) <<< (x7 &&& 31)))), (0, .ref (fh_ad E k1))] rfl rfl rfl (by decide) dX0_waySet_34 ?_
      refine go_goto C 12 dX0_waySet_37 rfl ?_
      refine go_lv [3, 2, 1, 0] (lv' := [(0, .ref (fh_ad E k1)), (2, .int (x6 ||| (((1 : Int32)) <<< (x7 &&& 31)))), (3, .int v13), (4, .int (x8 + 1))]) rfl ?_
      exact hr10 (x6 ||| (((1 : Int32)) <<< (x7 &&& 31))) v13 (x8 + 1) σ9
theorem m_X0_waySet (E : fh_E) (l : Launch) (hok : fh_ok E) (k1 : Nat) (a2 : Int32) (σ3 : fh_S) : fh_Met E l yX0_waySet cX0_waySet 5 ((some FieldType.int)) rm_X0_waySet fh_vI [.ref (fh_ad E k1), .int a2] σ3 (f_X0_waySet k1 a2 σ3) := fh_met hok (by decide +kernel) (Nat.le_of_ble_eq_true rfl) (fun M _ C Hr => g_X0_waySet C Hr k1 a2 σ3)
def f_X0_ringSet_B4 (k1 : Nat) (r7 : Int32 → Int32 → fh_S → Option (Int32 × fh_S)) : Int32 → Int32 → fh_S → Option (Int32 × fh_S) := fun x4 x5 σ6 => (fh_gi σ6 0 k1 9).bind fun v8 => if v8 ≤ x5 then fh_cb (f_X0_waySet k1 x4 σ6) fun r10 σ9 => some (r10, σ9) else (fh_gr 0 k1 2).bind fun k11 => (fh_ld σ6 k11 x4).bind fun v12 => r7 v12 (x5 + 1) σ6
def f_X0_ringSet (k1 : Nat) (a2 : Int32) (σ3 : fh_S) : Option (Int32 × fh_S) := fh_ob 0 k1 (fh_fx (ρ := Int32 → Int32 → fh_S → Option (Int32 × fh_S)) (fun _ _ _ => none) (f_X0_ringSet_B4 k1) fh_fu a2 ((0 : Int32)) σ3)
abbrev rm_X0_ringSet : Room := { frames := 1, cells := 0, slots := 0, locals := 24 }
theorem pd_X0_ringSet : yX0_ringSet.cls ≠ "java/lang/invoke/MethodHandle" ∧ yX0_ringSet.cls ≠ "java/lang/invoke/VarHandle" ∧ (parseMethodDescriptor yX0_ringSet.desc).map (fun d => d.parameters.length) = some 1 := by decide +kernel
theorem dX0_ringSet_0 : decode cX0_ringSet 0 = .ok (.iload_n 1, 1) := by decide +kernel
theorem dX0_ringSet_1 : decode cX0_ringSet 1 = .ok (.istore_n 2, 1) := by decide +kernel
theorem dX0_ringSet_2 : decode cX0_ringSet 2 = .ok (.iconst 0, 1) := by decide +kernel
theorem dX0_ringSet_3 : decode cX0_ringSet 3 = .ok (.istore_n 3, 1) := by decide +kernel
theorem dX0_ringSet_4 : decode cX0_ringSet 4 = .ok (.iload_n 3, 1) := by decide +kernel
theorem dX0_ringSet_5 : decode cX0_ringSet 5 = .ok (.aload_n 0, 1) := by decide +kernel
theorem dX0_ringSet_6 : decode cX0_ringSet 6 = .ok (.getfield 39, 3) := by decide +kernel
theorem dX0_ringSet_9 : decode cX0_ringSet 9 = .ok (.if_icmp .ge 16, 3) := by decide +kernel
theorem dX0_ringSet_12 : decode cX0_ringSet 12 = .ok (.aload_n 0, 1) := by decide +kernel
theorem dX0_ringSet_13 : decode cX0_ringSet 13 = .ok (.getfield 18, 3) := by decide +kernel
theorem dX0_ringSet_16 : decode cX0_ringSet 16 = .ok (.iload_n 2, 1) := by decide +kernel
theorem dX0_ringSet_17 : decode cX0_ringSet 17 = .ok (.iaload, 1) := by decide +kernel
theorem dX0_ringSet_18 : decode cX0_ringSet 18 = .ok (.istore_n 2, 1) := by decide +kernel
theorem dX0_ringSet_19 : decode cX0_ringSet 19 = .ok (.iinc 3 1, 3) := by decide +kernel
theorem dX0_ringSet_22 : decode cX0_ringSet 22 = .ok (.goto (-18), 3) := by decide +kernel
theorem dX0_ringSet_25 : decode cX0_ringSet 25 = .ok (.aload_n 0, 1) := by decide +kernel
theorem dX0_ringSet_26 : decode cX0_ringSet 26 = .ok (.iload_n 2, 1) := by decide +kernel
theorem dX0_ringSet_27 : decode cX0_ringSet 27 = .ok (.invokevirtual 119, 3) := by decide +kernel
theorem dX0_ringSet_30 : decode cX0_ringSet 30 = .ok (.ireturn, 1) := by decide +kernel
set_option maxHeartbeats 4000000 in
set_option maxRecDepth 100000 in
theorem g_X0_ringSet {E : fh_E} {M : fh_M} (C : fh_Cx E M cX0_ringSet 4 RX0 ((some FieldType.int)) rm_X0_ringSet) (Hr : fh_Rt E M) (k1 : Nat) (a2 : Int32) (σ3 : fh_S) : fh_Go E M 4 fh_vI 0 [(0, .ref (fh_ad E k1)), (1, .int a2)] [] σ3 (f_X0_ringSet k1 a2 σ3) := by
  have hok := fh_cok C
  refine go_ob ?_
  refine go_iload_n C 1 rfl rfl dX0_ringSet_0 ?_
  refine go_istore_n C [(2, .int a2), (0, .ref (fh_ad E k1)), (1, .int a2)] rfl rfl (by decide) dX0_ringSet_1 ?_
  refine go_iconst C (0 : Int32) dX0_ringSet_2 rfl ?_
  refine go_istore_n C [(3, .int ((0 : Int32))), (2, .int a2), (0, .ref (fh_ad E k1)), (1, .int a2)] rfl rfl (by decide) dX0_ringSet_3 ?_
  refine go_lv [2, 1, 0] (lv' := [(0, .ref (fh_ad E k1)), (2, .int a2), (3, .int ((0 : Int32)))]) rfl ?_
  refine go_fx (fun (r7 : Int32 → Int32 → fh_S → Option (Int32 × fh_S)) => ∀ (x4 : Int32) (x5 : Int32) (σ6 : fh_S), fh_Go E M 4 fh_vI 4 [(0, .ref (fh_ad E k1)), (2, .int x4), (3, .int x5)] [] σ6 (r7 x4 x5 σ6)) ?_ ?_ fh_fu a2 ((0 : Int32)) σ3
  · intro x4 x5 σ6
    exact go_none
  · intro r7 hr7 x4 x5 σ6
    refine go_iload_n C 2 rfl rfl dX0_ringSet_4 ?_
    refine go_aload_n C 0 rfl rfl dX0_ringSet_5 ?_
    refine go_gi (ci := 0) (j := 9) C fh_in0 rfl (by decide) rfl q_46 dX0_ringSet_6 (fun v8 => ?_)
    refine go_icmp_ge (tgt := 25) C dX0_ringSet_9 rfl (fun _ => ?_) (fun _ => ?_)
    · refine go_aload_n C 0 rfl rfl dX0_ringSet_25 ?_
      refine go_iload_n C 1 rfl rfl dX0_ringSet_26 ?_
      refine go_callVI C (st := []) [.int x4] (m_X0_waySet E _ hok k1 x4 σ6) (fun _ h => fh_ob_ok h) rfl rfl ⟨q_329, q_318, q_319, q_2, q_320⟩ pd_X0_waySet rfl ⟨⟨Nat.le_of_ble_eq_true rfl, Nat.le_of_ble_eq_true rfl⟩, rfl, rfl⟩ (Nat.le_of_ble_eq_true rfl) dX0_ringSet_27 (fun r10 σ9 => ?_)
      exact go_iret C Hr rfl dX0_ringSet_30
    · refine go_aload_n C 0 rfl rfl dX0_ringSet_12 ?_
      refine go_gr (ci := 0) (j := 2) C fh_in0 rfl (by decide) rfl q_33 dX0_ringSet_13 (fun k11 => ?_)
      refine go_iload_n C 1 rfl rfl dX0_ringSet_16 ?_
      refine go_iald C dX0_ringSet_17 (fun v12 => ?_)
      refine go_istore_n C [(2, .int v12), (0, .ref (fh_ad E k1)), (3, .int x5)] rfl rfl (by decide) dX0_ringSet_18 ?_
      refine go_iinc C (x5 + 1) 2 [(3, .int (x5 + 1)), (2, .int v12), (0, .ref (fh_ad E k1))] rfl rfl rfl (by decide) dX0_ringSet_19 ?_
      refine go_goto C 4 dX0_ringSet_22 rfl ?_
      refine go_lv [2, 1, 0] (lv' := [(0, .ref (fh_ad E k1)), (2, .int v12), (3, .int (x5 + 1))]) rfl ?_
      exact hr7 v12 (x5 + 1) σ6
theorem m_X0_ringSet (E : fh_E) (l : Launch) (hok : fh_ok E) (k1 : Nat) (a2 : Int32) (σ3 : fh_S) : fh_Met E l yX0_ringSet cX0_ringSet 4 ((some FieldType.int)) rm_X0_ringSet fh_vI [.ref (fh_ad E k1), .int a2] σ3 (f_X0_ringSet k1 a2 σ3) := fh_met hok (by decide +kernel) (Nat.le_of_ble_eq_true rfl) (fun M _ C Hr => g_X0_ringSet C Hr k1 a2 σ3)
def f_J6_numberOfTrailingZeros_0f7a4_J74 : Int32 → Int32 → fh_S → Option (Int32 × fh_S) := fun x12 x13 σ14 => some (x13 + ((x12.toUInt32 >>> (((1 : Int32)).toUInt32 &&& Int32.toUInt32 31)).toInt32), σ14)
def f_J6_numberOfTrailingZeros_0f7a4_J62 : Int32 → Int32 → fh_S → Option (Int32 × fh_S) := fun x9 x10 σ11 => fh_jn (f_J6_numberOfTrailingZeros_0f7a4_J74) (fun j15 => if x9 ≤ ((4 : Int32)) then j15 x9 x10 σ11 else j15 ((x9.toUInt32 >>> (((2 : Int32)).toUInt32 &&& Int32.toUInt32 31)).toInt32) (x10 + 2) σ11)
def f_J6_numberOfTrailingZeros_0f7a4_J49 : Int32 → Int32 → fh_S → Option (Int32 × fh_S) := fun x6 x7 σ8 => fh_jn (f_J6_numberOfTrailingZeros_0f7a4_J62) (fun j16 => if x6 ≤ ((16 : Int32)) then j16 x6 x7 σ8 else j16 ((x6.toUInt32 >>> (((4 : Int32)).toUInt32 &&& Int32.toUInt32 31)).toInt32) (x7 + 4) σ8)
def f_J6_numberOfTrailingZeros_0f7a4_J34 : Int32 → Int32 → fh_S → Option (Int32 × fh_S) := fun x3 x4 σ5 => fh_jn (f_J6_numberOfTrailingZeros_0f7a4_J49) (fun j17 => if x3 ≤ ((256 : Int32)) then j17 x3 x4 σ5 else j17 ((x3.toUInt32 >>> (((8 : Int32)).toUInt32 &&& Int32.toUInt32 31)).toInt32) (x4 + 8) σ5)
def f_J6_numberOfTrailingZeros_0f7a4 (a1 : Int32) (σ2 : fh_S) : Option (Int32 × fh_S) := if 0 < ((a1 ^^^ ((-1 : Int32))) &&& (a1 - ((1 : Int32)))) then fh_jn (f_J6_numberOfTrailingZeros_0f7a4_J34) (fun j18 => if ((a1 ^^^ ((-1 : Int32))) &&& (a1 - ((1 : Int32)))) ≤ ((65536 : Int32)) then j18 ((a1 ^^^ ((-1 : Int32))) &&& (a1 - ((1 : Int32)))) ((1 : Int32)) σ2 else j18 ((((a1 ^^^ ((-1 : Int32))) &&& (a1 - ((1 : Int32)))).toUInt32 >>> (((16 : Int32)).toUInt32 &&& Int32.toUInt32 31)).toInt32) (((1 : Int32)) + 16) σ2) else some (((a1 ^^^ ((-1 : Int32))) &&& (a1 - ((1 : Int32)))) &&& ((32 : Int32)), σ2)
abbrev rm_J6_numberOfTrailingZeros_0f7a4 : Room := { frames := 0, cells := 0, slots := 0, locals := 0 }
theorem pd_J6_numberOfTrailingZeros_0f7a4 : yJ6_numberOfTrailingZeros_0f7a4.cls ≠ "java/lang/invoke/MethodHandle" ∧ yJ6_numberOfTrailingZeros_0f7a4.cls ≠ "java/lang/invoke/VarHandle" ∧ (parseMethodDescriptor yJ6_numberOfTrailingZeros_0f7a4.desc).map (fun d => d.parameters.length) = some 1 := by decide +kernel
theorem dJ6_numberOfTrailingZeros_0f7a4_0 : decode cJ6_numberOfTrailingZeros_0f7a4 0 = .ok (.iload_n 0, 1) := by decide +kernel
theorem dJ6_numberOfTrailingZeros_0f7a4_1 : decode cJ6_numberOfTrailingZeros_0f7a4 1 = .ok (.iconst (-1), 1) := by decide +kernel
theorem dJ6_numberOfTrailingZeros_0f7a4_2 : decode cJ6_numberOfTrailingZeros_0f7a4 2 = .ok (.ixor, 1) := by decide +kernel
theorem dJ6_numberOfTrailingZeros_0f7a4_3 : decode cJ6_numberOfTrailingZeros_0f7a4 3 = .ok (.iload_n 0, 1) := by decide +kernel
theorem dJ6_numberOfTrailingZeros_0f7a4_4 : decode cJ6_numberOfTrailingZeros_0f7a4 4 = .ok (.iconst 1, 1) := by decide +kernel
theorem dJ6_numberOfTrailingZeros_0f7a4_5 : decode cJ6_numberOfTrailingZeros_0f7a4 5 = .ok (.isub, 1) := by decide +kernel
theorem dJ6_numberOfTrailingZeros_0f7a4_6 : decode cJ6_numberOfTrailingZeros_0f7a4 6 = .ok (.iand, 1) := by decide +kernel
theorem dJ6_numberOfTrailingZeros_0f7a4_7 : decode cJ6_numberOfTrailingZeros_0f7a4 7 = .ok (.istore_n 0, 1) := by decide +kernel
theorem dJ6_numberOfTrailingZeros_0f7a4_8 : decode cJ6_numberOfTrailingZeros_0f7a4 8 = .ok (.iload_n 0, 1) := by decide +kernel
theorem dJ6_numberOfTrailingZeros_0f7a4_9 : decode cJ6_numberOfTrailingZeros_0f7a4 9 = .ok (.ifCond .gt 8, 3) := by decide +kernel
theorem dJ6_numberOfTrailingZeros_0f7a4_12 : decode cJ6_numberOfTrailingZeros_0f7a4 12 = .ok (.iload_n 0, 1) := by decide +kernel
theorem dJ6_numberOfTrailingZeros_0f7a4_13 : decode cJ6_numberOfTrailingZeros_0f7a4 13 = .ok (.bipush 32, 2) := by decide +kernel
theorem dJ6_numberOfTrailingZeros_0f7a4_15 : decode cJ6_numberOfTrailingZeros_0f7a4 15 = .ok (.iand, 1) := by decide +kernel
theorem dJ6_numberOfTrailingZeros_0f7a4_16 : decode cJ6_numberOfTrailingZeros_0f7a4 16 = .ok (.ireturn, 1) := by decide +kernel
theorem dJ6_numberOfTrailingZeros_0f7a4_17 : decode cJ6_numberOfTrailingZeros_0f7a4 17 = .ok (.iconst 1, 1) := by decide +kernel
theorem dJ6_numberOfTrailingZeros_0f7a4_18 : decode cJ6_numberOfTrailingZeros_0f7a4 18 = .ok (.istore_n 1, 1) := by decide +kernel
theorem dJ6_numberOfTrailingZeros_0f7a4_19 : decode cJ6_numberOfTrailingZeros_0f7a4 19 = .ok (.iload_n 0, 1) := by decide +kernel
theorem dJ6_numberOfTrailingZeros_0f7a4_20 : decode cJ6_numberOfTrailingZeros_0f7a4 20 = .ok (.ldc_w 264, 3) := by decide +kernel
theorem dJ6_numberOfTrailingZeros_0f7a4_23 : decode cJ6_numberOfTrailingZeros_0f7a4 23 = .ok (.if_icmp .le 11, 3) := by decide +kernel
theorem dJ6_numberOfTrailingZeros_0f7a4_26 : decode cJ6_numberOfTrailingZeros_0f7a4 26 = .ok (.iinc 1 16, 3) := by decide +kernel
theorem dJ6_numberOfTrailingZeros_0f7a4_29 : decode cJ6_numberOfTrailingZeros_0f7a4 29 = .ok (.iload_n 0, 1) := by decide +kernel
theorem dJ6_numberOfTrailingZeros_0f7a4_30 : decode cJ6_numberOfTrailingZeros_0f7a4 30 = .ok (.bipush 16, 2) := by decide +kernel
theorem dJ6_numberOfTrailingZeros_0f7a4_32 : decode cJ6_numberOfTrailingZeros_0f7a4 32 = .ok (.iushr, 1) := by decide +kernel
theorem dJ6_numberOfTrailingZeros_0f7a4_33 : decode cJ6_numberOfTrailingZeros_0f7a4 33 = .ok (.istore_n 0, 1) := by decide +kernel
theorem dJ6_numberOfTrailingZeros_0f7a4_34 : decode cJ6_numberOfTrailingZeros_0f7a4 34 = .ok (.iload_n 0, 1) := by decide +kernel
theorem dJ6_numberOfTrailingZeros_0f7a4_35 : decode cJ6_numberOfTrailingZeros_0f7a4 35 = .ok (.sipush 256, 3) := by decide +kernel
theorem dJ6_numberOfTrailingZeros_0f7a4_38 : decode cJ6_numberOfTrailingZeros_0f7a4 38 = .ok (.if_icmp .le 11, 3) := by decide +kernel
theorem dJ6_numberOfTrailingZeros_0f7a4_41 : decode cJ6_numberOfTrailingZeros_0f7a4 41 = .ok (.iinc 1 8, 3) := by decide +kernel
theorem dJ6_numberOfTrailingZeros_0f7a4_44 : decode cJ6_numberOfTrailingZeros_0f7a4 44 = .ok (.iload_n 0, 1) := by decide +kernel
theorem dJ6_numberOfTrailingZeros_0f7a4_45 : decode cJ6_numberOfTrailingZeros_0f7a4 45 = .ok (.bipush 8, 2) := by decide +kernel
theorem dJ6_numberOfTrailingZeros_0f7a4_47 : decode cJ6_numberOfTrailingZeros_0f7a4 47 = .ok (.iushr, 1) := by decide +kernel
theorem dJ6_numberOfTrailingZeros_0f7a4_48 : decode cJ6_numberOfTrailingZeros_0f7a4 48 = .ok (.istore_n 0, 1) := by decide +kernel
theorem dJ6_numberOfTrailingZeros_0f7a4_49 : decode cJ6_numberOfTrailingZeros_0f7a4 49 = .ok (.iload_n 0, 1) := by decide +kernel
theorem dJ6_numberOfTrailingZeros_0f7a4_50 : decode cJ6_numberOfTrailingZeros_0f7a4 50 = .ok (.bipush 16, 2) := by decide +kernel
theorem dJ6_numberOfTrailingZeros_0f7a4_52 : decode cJ6_numberOfTrailingZeros_0f7a4 52 = .ok (.if_icmp .le 10, 3) := by decide +kernel
theorem dJ6_numberOfTrailingZeros_0f7a4_55 : decode cJ6_numberOfTrailingZeros_0f7a4 55 = .ok (.iinc 1 4, 3) := by decide +kernel
theorem dJ6_numberOfTrailingZeros_0f7a4_58 : decode cJ6_numberOfTrailingZeros_0f7a4 58 = .ok (.iload_n 0, 1) := by decide +kernel
theorem dJ6_numberOfTrailingZeros_0f7a4_59 : decode cJ6_numberOfTrailingZeros_0f7a4 59 = .ok (.iconst 4, 1) := by decide +kernel
theorem dJ6_numberOfTrailingZeros_0f7a4_60 : decode cJ6_numberOfTrailingZeros_0f7a4 60 = .ok (.iushr, 1) := by decide +kernel
theorem dJ6_numberOfTrailingZeros_0f7a4_61 : decode cJ6_numberOfTrailingZeros_0f7a4 61 = .ok (.istore_n 0, 1) := by decide +kernel
theorem dJ6_numberOfTrailingZeros_0f7a4_62 : decode cJ6_numberOfTrailingZeros_0f7a4 62 = .ok (.iload_n 0, 1) := by decide +kernel
theorem dJ6_numberOfTrailingZeros_0f7a4_63 : decode cJ6_numberOfTrailingZeros_0f7a4 63 = .ok (.iconst 4, 1) := by decide +kernel
theorem dJ6_numberOfTrailingZeros_0f7a4_64 : decode cJ6_numberOfTrailingZeros_0f7a4 64 = .ok (.if_icmp .le 10, 3) := by decide +kernel
theorem dJ6_numberOfTrailingZeros_0f7a4_67 : decode cJ6_numberOfTrailingZeros_0f7a4 67 = .ok (.iinc 1 2, 3) := by decide +kernel
theorem dJ6_numberOfTrailingZeros_0f7a4_70 : decode cJ6_numberOfTrailingZeros_0f7a4 70 = .ok (.iload_n 0, 1) := by decide +kernel
theorem dJ6_numberOfTrailingZeros_0f7a4_71 : decode cJ6_numberOfTrailingZeros_0f7a4 71 = .ok (.iconst 2, 1) := by decide +kernel
theorem dJ6_numberOfTrailingZeros_0f7a4_72 : decode cJ6_numberOfTrailingZeros_0f7a4 72 = .ok (.iushr, 1) := by decide +kernel
theorem dJ6_numberOfTrailingZeros_0f7a4_73 : decode cJ6_numberOfTrailingZeros_0f7a4 73 = .ok (.istore_n 0, 1) := by decide +kernel
theorem dJ6_numberOfTrailingZeros_0f7a4_74 : decode cJ6_numberOfTrailingZeros_0f7a4 74 = .ok (.iload_n 1, 1) := by decide +kernel
theorem dJ6_numberOfTrailingZeros_0f7a4_75 : decode cJ6_numberOfTrailingZeros_0f7a4 75 = .ok (.iload_n 0, 1) := by decide +kernel
theorem dJ6_numberOfTrailingZeros_0f7a4_76 : decode cJ6_numberOfTrailingZeros_0f7a4 76 = .ok (.iconst 1, 1) := by decide +kernel
theorem dJ6_numberOfTrailingZeros_0f7a4_77 : decode cJ6_numberOfTrailingZeros_0f7a4 77 = .ok (.iushr, 1) := by decide +kernel
theorem dJ6_numberOfTrailingZeros_0f7a4_78 : decode cJ6_numberOfTrailingZeros_0f7a4 78 = .ok (.iadd, 1) := by decide +kernel
theorem dJ6_numberOfTrailingZeros_0f7a4_79 : decode cJ6_numberOfTrailingZeros_0f7a4 79 = .ok (.ireturn, 1) := by decide +kernel
set_option maxHeartbeats 4000000 in
set_option maxRecDepth 100000 in
theorem g_J6_numberOfTrailingZeros_0f7a4 {E : fh_E} {M : fh_M} (C : fh_Cx E M cJ6_numberOfTrailingZeros_0f7a4 2 RJ6 ((some FieldType.int)) rm_J6_numberOfTrailingZeros_0f7a4) (Hr : fh_Rt E M) (a1 : Int32) (σ2 : fh_S) : fh_Go E M 2 fh_vI 0 [(0, .int a1)] [] σ2 (f_J6_numberOfTrailingZeros_0f7a4 a1 σ2) := by
  have hok := fh_cok C
  refine go_iload_n C 0 rfl rfl dJ6_numberOfTrailingZeros_0f7a4_0 ?_
  refine go_iconst C (-1 : Int32) dJ6_numberOfTrailingZeros_0f7a4_1 rfl ?_
  refine go_ixor C dJ6_numberOfTrailingZeros_0f7a4_2 ?_
  refine go_iload_n C 0 rfl rfl dJ6_numberOfTrailingZeros_0f7a4_3 ?_
  refine go_iconst C (1 : Int32) dJ6_numberOfTrailingZeros_0f7a4_4 rfl ?_
  refine go_isub C dJ6_numberOfTrailingZeros_0f7a4_5 ?_
  refine go_iand C dJ6_numberOfTrailingZeros_0f7a4_6 ?_
  refine go_istore_n C [(0, .int ((a1 ^^^ ((-1 : Int32))) &&& (a1 - ((1 : Int32)))))] rfl rfl (by decide) dJ6_numberOfTrailingZeros_0f7a4_7 ?_
  refine go_iload_n C 0 rfl rfl dJ6_numberOfTrailingZeros_0f7a4_8 ?_
  refine go_if_gt (tgt := 17) C dJ6_numberOfTrailingZeros_0f7a4_9 rfl (fun _ => ?_) (fun _ => ?_)
  · refine go_iconst C (1 : Int32) dJ6_numberOfTrailingZeros_0f7a4_17 rfl ?_
    refine go_istore_n C [(1, .int ((1 : Int32))), (0, .int ((a1 ^^^ ((-1 : Int32))) &&& (a1 - ((1 : Int32)))))] rfl rfl (by decide) dJ6_numberOfTrailingZeros_0f7a4_18 ?_
    refine go_iload_n C 1 rfl rfl dJ6_numberOfTrailingZeros_0f7a4_19 ?_
    refine go_ldcw C q_345 dJ6_numberOfTrailingZeros_0f7a4_20 ?_
    refine go_jn (fun (j18 : Int32 → Int32 → fh_S → Option (Int32 × fh_S)) => ∀ (x3 : Int32) (x4 : Int32) (σ5 : fh_S), fh_Go E M 2 fh_vI 34 [(0, .int x3), (1, .int x4)] [] σ5 (j18 x3 x4 σ5)) ?_ (fun j18 hj18 => ?_)
    · intro x3 x4 σ5
      refine go_iload_n C 0 rfl rfl dJ6_numberOfTrailingZeros_0f7a4_34 ?_
      refine go_sipush C (256 : Int32) dJ6_numberOfTrailingZeros_0f7a4_35 rfl ?_
      refine go_jn (fun (j17 : Int32 → Int32 → fh_S → Option (Int32 × fh_S)) => ∀ (x6 : Int32) (x7 : Int32) (σ8 : fh_S), fh_Go E M 2 fh_vI 49 [(0, .int x6), (1, .int x7)] [] σ8 (j17 x6 x7 σ8)) ?_ (fun j17 hj17 => ?_)
      · intro x6 x7 σ8
        refine go_iload_n C 0 rfl rfl dJ6_numberOfTrailingZeros_0f7a4_49 ?_
        refine go_bipush C (16 : Int32) dJ6_numberOfTrailingZeros_0f7a4_50 rfl ?_
        refine go_jn (fun (j16 : Int32 → Int32 → fh_S → Option (Int32 × fh_S)) => ∀ (x9 : Int32) (x10 : Int32) (σ11 : fh_S), fh_Go E M 2 fh_vI 62 [(0, .int x9), (1, .int x10)] [] σ11 (j16 x9 x10 σ11)) ?_ (fun j16 hj16 => ?_)
        · intro x9 x10 σ11
          refine go_iload_n C 0 rfl rfl dJ6_numberOfTrailingZeros_0f7a4_62 ?_
          refine go_iconst C (4 : Int32) dJ6_numberOfTrailingZeros_0f7a4_63 rfl ?_
          refine go_jn (fun (j15 : Int32 → Int32 → fh_S → Option (Int32 × fh_S)) => ∀ (x12 : Int32) (x13 : Int32) (σ14 : fh_S), fh_Go E M 2 fh_vI 74 [(0, .int x12), (1, .int x13)] [] σ14 (j15 x12 x13 σ14)) ?_ (fun j15 hj15 => ?_)
          · intro x12 x13 σ14
            refine go_iload_n C 1 rfl rfl dJ6_numberOfTrailingZeros_0f7a4_74 ?_
            refine go_iload_n C 0 rfl rfl dJ6_numberOfTrailingZeros_0f7a4_75 ?_
            refine go_iconst C (1 : Int32) dJ6_numberOfTrailingZeros_0f7a4_76 rfl ?_
            refine go_iushr C dJ6_numberOfTrailingZeros_0f7a4_77 ?_
            refine go_iadd C dJ6_numberOfTrailingZeros_0f7a4_78 ?_
            exact go_iret C Hr rfl dJ6_numberOfTrailingZeros_0f7a4_79
          refine go_icmp_le (tgt := 74) C dJ6_numberOfTrailingZeros_0f7a4_64 rfl (fun _ => ?_) (fun _ => ?_)
          · exact hj15 x9 x10 σ11
          · refine go_iinc C (x10 + 2) 1 [(1, .int (x10 + 2)), (0, .int x9)] rfl rfl rfl (by decide) dJ6_numberOfTrailingZeros_0f7a4_67 ?_
            refine go_iload_n C 1 rfl rfl dJ6_numberOfTrailingZeros_0f7a4_70 ?_
            refine go_iconst C (2 : Int32) dJ6_numberOfTrailingZeros_0f7a4_71 rfl ?_
            refine go_iushr C dJ6_numberOfTrailingZeros_0f7a4_72 ?_
            refine go_istore_n C [(0, .int ((x9.toUInt32 >>> (((2 : Int32)).toUInt32 &&& Int32.toUInt32 31)).toInt32)), (1, .int (x10 + 2))] rfl rfl (by decide) dJ6_numberOfTrailingZeros_0f7a4_73 ?_
            exact hj15 ((x9.toUInt32 >>> (((2 : Int32)).toUInt32 &&& Int32.toUInt32 31)).toInt32) (x10 + 2) σ11
        refine go_icmp_le (tgt := 62) C dJ6_numberOfTrailingZeros_0f7a4_52 rfl (fun _ => ?_) (fun _ => ?_)
        · exact hj16 x6 x7 σ8
        · refine go_iinc C (x7 + 4) 1 [(1, .int (x7 + 4)), (0, .int x6)] rfl rfl rfl (by decide) dJ6_numberOfTrailingZeros_0f7a4_55 ?_
          refine go_iload_n C 1 rfl rfl dJ6_numberOfTrailingZeros_0f7a4_58 ?_
          refine go_iconst C (4 : Int32) dJ6_numberOfTrailingZeros_0f7a4_59 rfl ?_
          refine go_iushr C dJ6_numberOfTrailingZeros_0f7a4_60 ?_
          refine go_istore_n C [(0, .int ((x6.toUInt32 >>> (((4 : Int32)).toUInt32 &&& Int32.toUInt32 31)).toInt32)), (1, .int (x7 + 4))] rfl rfl (by decide) dJ6_numberOfTrailingZeros_0f7a4_61 ?_
          exact hj16 ((x6.toUInt32 >>> (((4 : Int32)).toUInt32 &&& Int32.toUInt32 31)).toInt32) (x7 + 4) σ8
      refine go_icmp_le (tgt := 49) C dJ6_numberOfTrailingZeros_0f7a4_38 rfl (fun _ => ?_) (fun _ => ?_)
      · exact hj17 x3 x4 σ5
      · refine go_iinc C (x4 + 8) 1 [(1, .int (x4 + 8)), (0, .int x3)] rfl rfl rfl (by decide) dJ6_numberOfTrailingZeros_0f7a4_41 ?_
        refine go_iload_n C 1 rfl rfl dJ6_numberOfTrailingZeros_0f7a4_44 ?_
        refine go_bipush C (8 : Int32) dJ6_numberOfTrailingZeros_0f7a4_45 rfl ?_
        refine go_iushr C dJ6_numberOfTrailingZeros_0f7a4_47 ?_
        refine go_istore_n C [(0, .int ((x3.toUInt32 >>> (((8 : Int32)).toUInt32 &&& Int32.toUInt32 31)).toInt32)), (1, .int (x4 + 8))] rfl rfl (by decide) dJ6_numberOfTrailingZeros_0f7a4_48 ?_
        exact hj17 ((x3.toUInt32 >>> (((8 : Int32)).toUInt32 &&& Int32.toUInt32 31)).toInt32) (x4 + 8) σ5
    refine go_icmp_le (tgt := 34) C dJ6_numberOfTrailingZeros_0f7a4_23 rfl (fun _ => ?_) (fun _ => ?_)
    · refine go_lv [1, 0] (lv' := [(0, .int ((a1 ^^^ ((-1 : Int32))) &&& (a1 - ((1 : Int32))))), (1, .int ((1 : Int32)))]) rfl ?_
      exact hj18 ((a1 ^^^ ((-1 : Int32))) &&& (a1 - ((1 : Int32)))) ((1 : Int32)) σ2
    · refine go_iinc C (((1 : Int32)) + 16) 0 [(1, .int (((1 : Int32)) + 16)), (0, .int ((a1 ^^^ ((-1 : Int32))) &&& (a1 - ((1 : Int32)))))] rfl rfl rfl (by decide) dJ6_numberOfTrailingZeros_0f7a4_26 ?_
      refine go_iload_n C 1 rfl rfl dJ6_numberOfTrailingZeros_0f7a4_29 ?_
      refine go_bipush C (16 : Int32) dJ6_numberOfTrailingZeros_0f7a4_30 rfl ?_
      refine go_iushr C dJ6_numberOfTrailingZeros_0f7a4_32 ?_
      refine go_istore_n C [(0, .int ((((a1 ^^^ ((-1 : Int32))) &&& (a1 - ((1 : Int32)))).toUInt32 >>> (((16 : Int32)).toUInt32 &&& Int32.toUInt32 31)).toInt32)), (1, .int (((1 : Int32)) + 16))] rfl rfl (by decide) dJ6_numberOfTrailingZeros_0f7a4_33 ?_
      exact hj18 ((((a1 ^^^ ((-1 : Int32))) &&& (a1 - ((1 : Int32)))).toUInt32 >>> (((16 : Int32)).toUInt32 &&& Int32.toUInt32 31)).toInt32) (((1 : Int32)) + 16) σ2
  · refine go_iload_n C 0 rfl rfl dJ6_numberOfTrailingZeros_0f7a4_12 ?_
    refine go_bipush C (32 : Int32) dJ6_numberOfTrailingZeros_0f7a4_13 rfl ?_
    refine go_iand C dJ6_numberOfTrailingZeros_0f7a4_15 ?_
    exact go_iret C Hr rfl dJ6_numberOfTrailingZeros_0f7a4_16
theorem m_J6_numberOfTrailingZeros_0f7a4 (E : fh_E) (l : Launch) (hok : fh_ok E) (a1 : Int32) (σ2 : fh_S) : fh_Met E l yJ6_numberOfTrailingZeros_0f7a4 cJ6_numberOfTrailingZeros_0f7a4 2 ((some FieldType.int)) rm_J6_numberOfTrailingZeros_0f7a4 fh_vI [.int a1] σ2 (f_J6_numberOfTrailingZeros_0f7a4 a1 σ2) := fh_met hok (by decide +kernel) (Nat.le_of_ble_eq_true rfl) (fun M _ C Hr => g_J6_numberOfTrailingZeros_0f7a4 C Hr a1 σ2)
def f_X4_lowestOf (a1 : Int32) (σ2 : fh_S) : Option (Int32 × fh_S) := fh_cb (f_J6_numberOfTrailingZeros_0f7a4 a1 σ2) fun r4 σ3 => some (r4, σ3)
abbrev rm_X4_lowestOf : Room := { frames := 1, cells := 0, slots := 0, locals := 21 }
theorem pd_X4_lowestOf : yX4_lowestOf.cls ≠ "java/lang/invoke/MethodHandle" ∧ yX4_lowestOf.cls ≠ "java/lang/invoke/VarHandle" ∧ (parseMethodDescriptor yX4_lowestOf.desc).map (fun d => d.parameters.length) = some 1 := by decide +kernel
theorem dX4_lowestOf_0 : decode cX4_lowestOf 0 = .ok (.iload_n 0, 1) := by decide +kernel
theorem dX4_lowestOf_1 : decode cX4_lowestOf 1 = .ok (.invokestatic 278, 3) := by decide +kernel
theorem dX4_lowestOf_4 : decode cX4_lowestOf 4 = .ok (.ireturn, 1) := by decide +kernel
set_option maxHeartbeats 4000000 in
set_option maxRecDepth 100000 in
theorem g_X4_lowestOf {E : fh_E} {M : fh_M} (C : fh_Cx E M cX4_lowestOf 1 RX4 ((some FieldType.int)) rm_X4_lowestOf) (Hr : fh_Rt E M) (a1 : Int32) (σ2 : fh_S) : fh_Go E M 1 fh_vI 0 [(0, .int a1)] [] σ2 (f_X4_lowestOf a1 σ2) := by
  have hok := fh_cok C
  refine go_iload_n C 0 rfl rfl dX4_lowestOf_0 ?_
  refine go_callSI C (st := []) [.int a1] (m_J6_numberOfTrailingZeros_0f7a4 E _ hok a1 σ2) rfl ⟨q_342, q_343, q_8, q_344⟩ pd_J6_numberOfTrailingZeros_0f7a4 rfl ⟨⟨Nat.le_of_ble_eq_true rfl, Nat.le_of_ble_eq_true rfl⟩, rfl, rfl⟩ (Nat.le_of_ble_eq_true rfl) dX4_lowestOf_1 (fun r4 σ3 => ?_)
  exact go_iret C Hr rfl dX4_lowestOf_4
theorem m_X4_lowestOf (E : fh_E) (l : Launch) (hok : fh_ok E) (a1 : Int32) (σ2 : fh_S) : fh_Met E l yX4_lowestOf cX4_lowestOf 1 ((some FieldType.int)) rm_X4_lowestOf fh_vI [.int a1] σ2 (f_X4_lowestOf a1 σ2) := fh_met hok (by decide +kernel) (Nat.le_of_ble_eq_true rfl) (fun M _ C Hr => g_X4_lowestOf C Hr a1 σ2)
def f_X0_ringCount_J27 (r6 : Int32 → Int32 → fh_S → Option (Int32 × fh_S)) (x4 : Int32) : Int32 → fh_S → Option (Int32 × fh_S) := fun x12 σ13 => r6 x12 (x4 + 1) σ13
def f_X0_ringCount_B4 (k1 : Nat) (r6 : Int32 → Int32 → fh_S → Option (Int32 × fh_S)) : Int32 → Int32 → fh_S → Option (Int32 × fh_S) := fun x3 x4 σ5 => (fh_gi σ5 0 k1 9).bind fun v7 => if v7 ≤ x4 then some (x3, σ5) else fh_cb (f_X0_ringSet k1 x4 σ5) fun r9 σ8 => fh_cb (f_X4_lowestOf r9 σ8) fun r11 σ10 => fh_jn (f_X0_ringCount_J27 r6 x4) (fun j14 => if r11 = x4 then j14 (x3 + 1) σ10 else j14 x3 σ10)
def f_X0_ringCount (k1 : Nat) (σ2 : fh_S) : Option (Int32 × fh_S) := fh_ob 0 k1 (fh_fx (ρ := Int32 → Int32 → fh_S → Option (Int32 × fh_S)) (fun _ _ _ => none) (f_X0_ringCount_B4 k1) fh_fu ((0 : Int32)) ((0 : Int32)) σ2)
abbrev rm_X0_ringCount : Room := { frames := 2, cells := 0, slots := 0, locals := 47 }
theorem pd_X0_ringCount : yX0_ringCount.cls ≠ "java/lang/invoke/MethodHandle" ∧ yX0_ringCount.cls ≠ "java/lang/invoke/VarHandle" ∧ (parseMethodDescriptor yX0_ringCount.desc).map (fun d => d.parameters.length) = some 0 := by decide +kernel
theorem dX0_ringCount_0 : decode cX0_ringCount 0 = .ok (.iconst 0, 1) := by decide +kernel
theorem dX0_ringCount_1 : decode cX0_ringCount 1 = .ok (.istore_n 1, 1) := by decide +kernel
theorem dX0_ringCount_2 : decode cX0_ringCount 2 = .ok (.iconst 0, 1) := by decide +kernel
theorem dX0_ringCount_3 : decode cX0_ringCount 3 = .ok (.istore_n 2, 1) := by decide +kernel
theorem dX0_ringCount_4 : decode cX0_ringCount 4 = .ok (.iload_n 2, 1) := by decide +kernel
theorem dX0_ringCount_5 : decode cX0_ringCount 5 = .ok (.aload_n 0, 1) := by decide +kernel
theorem dX0_ringCount_6 : decode cX0_ringCount 6 = .ok (.getfield 39, 3) := by decide +kernel
theorem dX0_ringCount_9 : decode cX0_ringCount 9 = .ok (.if_icmp .ge 24, 3) := by decide +kernel
theorem dX0_ringCount_12 : decode cX0_ringCount 12 = .ok (.aload_n 0, 1) := by decide +kernel
theorem dX0_ringCount_13 : decode cX0_ringCount 13 = .ok (.iload_n 2, 1) := by decide +kernel
theorem dX0_ringCount_14 : decode cX0_ringCount 14 = .ok (.invokevirtual 122, 3) := by decide +kernel
theorem dX0_ringCount_17 : decode cX0_ringCount 17 = .ok (.invokestatic 125, 3) := by decide +kernel
theorem dX0_ringCount_20 : decode cX0_ringCount 20 = .ok (.iload_n 2, 1) := by decide +kernel
theorem dX0_ringCount_21 : decode cX0_ringCount 21 = .ok (.if_icmp .ne 6, 3) := by decide +kernel
theorem dX0_ringCount_24 : decode cX0_ringCount 24 = .ok (.iinc 1 1, 3) := by decide +kernel
theorem dX0_ringCount_27 : decode cX0_ringCount 27 = .ok (.iinc 2 1, 3) := by decide +kernel
theorem dX0_ringCount_30 : decode cX0_ringCount 30 = .ok (.goto (-26), 3) := by decide +kernel
theorem dX0_ringCount_33 : decode cX0_ringCount 33 = .ok (.iload_n 1, 1) := by decide +kernel
theorem dX0_ringCount_34 : decode cX0_ringCount 34 = .ok (.ireturn, 1) := by decide +kernel
set_option maxHeartbeats 4000000 in
set_option maxRecDepth 100000 in
theorem g_X0_ringCount {E : fh_E} {M : fh_M} (C : fh_Cx E M cX0_ringCount 3 RX0 ((some FieldType.int)) rm_X0_ringCount) (Hr : fh_Rt E M) (k1 : Nat) (σ2 : fh_S) : fh_Go E M 3 fh_vI 0 [(0, .ref (fh_ad E k1))] [] σ2 (f_X0_ringCount k1 σ2) := by
  have hok := fh_cok C
  refine go_ob ?_
  refine go_iconst C (0 : Int32) dX0_ringCount_0 rfl ?_
  refine go_istore_n C [(1, .int ((0 : Int32))), (0, .ref (fh_ad E k1))] rfl rfl (by decide) dX0_ringCount_1 ?_
  refine go_iconst C (0 : Int32) dX0_ringCount_2 rfl ?_
  refine go_istore_n C [(2, .int ((0 : Int32))), (1, .int ((0 : Int32))), (0, .ref (fh_ad E k1))] rfl rfl (by decide) dX0_ringCount_3 ?_
  refine go_lv [2, 1, 0] (lv' := [(0, .ref (fh_ad E k1)), (1, .int ((0 : Int32))), (2, .int ((0 : Int32)))]) rfl ?_
  refine go_fx (fun (r6 : Int32 → Int32 → fh_S → Option (Int32 × fh_S)) => ∀ (x3 : Int32) (x4 : Int32) (σ5 : fh_S), fh_Go E M 3 fh_vI 4 [(0, .ref (fh_ad E k1)), (1, .int x3), (2, .int x4)] [] σ5 (r6 x3 x4 σ5)) ?_ ?_ fh_fu ((0 : Int32)) ((0 : Int32)) σ2
  · intro x3 x4 σ5
    exact go_none
  · intro r6 hr6 x3 x4 σ5
    refine go_iload_n C 2 rfl rfl dX0_ringCount_4 ?_
    refine go_aload_n C 0 rfl rfl dX0_ringCount_5 ?_
    refine go_gi (ci := 0) (j := 9) C fh_in0 rfl (by decide) rfl q_46 dX0_ringCount_6 (fun v7 => ?_)
    refine go_icmp_ge (tgt := 33) C dX0_ringCount_9 rfl (fun _ => ?_) (fun _ => ?_)
    · refine go_iload_n C 1 rfl rfl dX0_ringCount_33 ?_
      exact go_iret C Hr rfl dX0_ringCount_34
    · refine go_aload_n C 0 rfl rfl dX0_ringCount_12 ?_
      refine go_iload_n C 2 rfl rfl dX0_ringCount_13 ?_
      refine go_callVI C (st := []) [.int x4] (m_X0_ringSet E _ hok k1 x4 σ5) (fun _ h => fh_ob_ok h) rfl rfl ⟨q_338, q_326, q_327, q_2, q_328⟩ pd_X0_ringSet rfl ⟨⟨Nat.le_of_ble_eq_true rfl, Nat.le_of_ble_eq_true rfl⟩, rfl, rfl⟩ (Nat.le_of_ble_eq_true rfl) dX0_ringCount_14 (fun r9 σ8 => ?_)
      refine go_callNI C (st := []) [.int r9] (m_X4_lowestOf E _ hok r9 σ8) rfl ⟨List.mem_of_getElem? (i := 6) rfl, q_340, q_1, q_341⟩ pd_X4_lowestOf rfl ⟨⟨Nat.le_of_ble_eq_true rfl, Nat.le_of_ble_eq_true rfl⟩, rfl, rfl⟩ (Nat.le_of_ble_eq_true rfl) dX0_ringCount_17 (fun r11 σ10 => ?_)
      refine go_iload_n C 2 rfl rfl dX0_ringCount_20 ?_
      refine go_jn (fun (j14 : Int32 → fh_S → Option (Int32 × fh_S)) => ∀ (x12 : Int32) (σ13 : fh_S), fh_Go E M 3 fh_vI 27 [(0, .ref (fh_ad E k1)), (1, .int x12), (2, .int x4)] [] σ13 (j14 x12 σ13)) ?_ (fun j14 hj14 => ?_)
      · intro x12 σ13
        refine go_iinc C (x4 + 1) 2 [(2, .int (x4 + 1)), (0, .ref (fh_ad E k1)), (1, .int x12)] rfl rfl rfl (by decide) dX0_ringCount_27 ?_
        refine go_goto C 4 dX0_ringCount_30 rfl ?_
        refine go_lv [1, 2, 0] (lv' := [(0, .ref (fh_ad E k1)), (1, .int x12), (2, .int (x4 + 1))]) rfl ?_
        exact hr6 x12 (x4 + 1) σ13
      refine go_icmp_ne (tgt := 27) C dX0_ringCount_21 rfl (fun _ => ?_) (fun _ => ?_)
      · exact hj14 x3 σ10
      · refine go_iinc C (x3 + 1) 1 [(1, .int (x3 + 1)), (0, .ref (fh_ad E k1)), (2, .int x4)] rfl rfl rfl (by decide) dX0_ringCount_24 ?_
        refine go_lv [1, 0, 2] (lv' := [(0, .ref (fh_ad E k1)), (1, .int (x3 + 1)), (2, .int x4)]) rfl ?_
        exact hj14 (x3 + 1) σ10
theorem m_X0_ringCount (E : fh_E) (l : Launch) (hok : fh_ok E) (k1 : Nat) (σ2 : fh_S) : fh_Met E l yX0_ringCount cX0_ringCount 3 ((some FieldType.int)) rm_X0_ringCount fh_vI [.ref (fh_ad E k1)] σ2 (f_X0_ringCount k1 σ2) := fh_met hok (by decide +kernel) (Nat.le_of_ble_eq_true rfl) (fun M _ C Hr => g_X0_ringCount C Hr k1 σ2)
def f_X4_isIn (a1 : Int32) (a2 : Int32) (σ3 : fh_S) : Option (Int32 × fh_S) := if ((a1 >>> (a2 &&& 31)) &&& ((1 : Int32))) = ((1 : Int32)) then fh_rz ((1 : Int32)) σ3 else fh_rz ((0 : Int32)) σ3
abbrev rm_X4_isIn : Room := { frames := 0, cells := 0, slots := 0, locals := 0 }
theorem pd_X4_isIn : yX4_isIn.cls ≠ "java/lang/invoke/MethodHandle" ∧ yX4_isIn.cls ≠ "java/lang/invoke/VarHandle" ∧ (parseMethodDescriptor yX4_isIn.desc).map (fun d => d.parameters.length) = some 2 := by decide +kernel
theorem dX4_isIn_0 : decode cX4_isIn 0 = .ok (.iload_n 0, 1) := by decide +kernel
theorem dX4_isIn_1 : decode cX4_isIn 1 = .ok (.iload_n 1, 1) := by decide +kernel
theorem dX4_isIn_2 : decode cX4_isIn 2 = .ok (.ishr, 1) := by decide +kernel
theorem dX4_isIn_3 : decode cX4_isIn 3 = .ok (.iconst 1, 1) := by decide +kernel
theorem dX4_isIn_4 : decode cX4_isIn 4 = .ok (.iand, 1) := by decide +kernel
theorem dX4_isIn_5 : decode cX4_isIn 5 = .ok (.iconst 1, 1) := by decide +kernel
theorem dX4_isIn_6 : decode cX4_isIn 6 = .ok (.if_icmp .ne 7, 3) := by decide +kernel
theorem dX4_isIn_9 : decode cX4_isIn 9 = .ok (.iconst 1, 1) := by decide +kernel
theorem dX4_isIn_10 : decode cX4_isIn 10 = .ok (.goto 4, 3) := by decide +kernel
theorem dX4_isIn_13 : decode cX4_isIn 13 = .ok (.iconst 0, 1) := by decide +kernel
theorem dX4_isIn_14 : decode cX4_isIn 14 = .ok (.ireturn, 1) := by decide +kernel
set_option maxHeartbeats 4000000 in
set_option maxRecDepth 100000 in
theorem g_X4_isIn {E : fh_E} {M : fh_M} (C : fh_Cx E M cX4_isIn 2 RX4 ((some FieldType.boolean)) rm_X4_isIn) (Hr : fh_Rt E M) (a1 : Int32) (a2 : Int32) (σ3 : fh_S) : fh_Go E M 2 fh_vI 0 [(0, .int a1), (1, .int a2)] [] σ3 (f_X4_isIn a1 a2 σ3) := by
  have hok := fh_cok C
  refine go_iload_n C 0 rfl rfl dX4_isIn_0 ?_
  refine go_iload_n C 1 rfl rfl dX4_isIn_1 ?_
  refine go_ishr C dX4_isIn_2 ?_
  refine go_iconst C (1 : Int32) dX4_isIn_3 rfl ?_
  refine go_iand C dX4_isIn_4 ?_
  refine go_iconst C (1 : Int32) dX4_isIn_5 rfl ?_
  refine go_icmp_ne (tgt := 13) C dX4_isIn_6 rfl (fun _ => ?_) (fun _ => ?_)
  · refine go_iconst C (0 : Int32) dX4_isIn_13 rfl ?_
    exact go_zret C Hr dX4_isIn_14
  · refine go_iconst C (1 : Int32) dX4_isIn_9 rfl ?_
    refine go_goto C 14 dX4_isIn_10 rfl ?_
    exact go_zret C Hr dX4_isIn_14
theorem m_X4_isIn (E : fh_E) (l : Launch) (hok : fh_ok E) (a1 : Int32) (a2 : Int32) (σ3 : fh_S) : fh_Met E l yX4_isIn cX4_isIn 2 ((some FieldType.boolean)) rm_X4_isIn fh_vI [.int a1, .int a2] σ3 (f_X4_isIn a1 a2 σ3) := fh_met hok (by decide +kernel) (Nat.le_of_ble_eq_true rfl) (fun M _ C Hr => g_X4_isIn C Hr a1 a2 σ3)
def f_X0_stepsToRing_B14 (k1 : Nat) (r5 : Int32) (r10 : Int32 → Int32 → Int32 → fh_S → Option (Int32 × fh_S)) : Int32 → Int32 → Int32 → fh_S → Option (Int32 × fh_S) := fun x6 x7 x8 σ9 => (fh_gi σ9 0 k1 9).bind fun v11 => if v11 ≤ x8 then some (x7, σ9) else fh_cb (f_X4_isIn r5 x6 σ9) fun r13 σ12 => if r13 = 0 then (fh_gr 0 k1 2).bind fun k14 => (fh_ld σ12 k14 x6).bind fun v15 => r10 v15 (x7 + 1) (x8 + 1) σ12 else some (x7, σ12)
def f_X0_stepsToRing (k1 : Nat) (a2 : Int32) (σ3 : fh_S) : Option (Int32 × fh_S) := fh_ob 0 k1 (fh_cb (f_X0_ringSet k1 a2 σ3) fun r5 σ4 => fh_fx (ρ := Int32 → Int32 → Int32 → fh_S → Option (Int32 × fh_S)) (fun _ _ _ _ => none) (f_X0_stepsToRing_B14 k1 r5) fh_fu a2 ((0 : Int32)) ((0 : Int32)) σ4)
abbrev rm_X0_stepsToRing : Room := { frames := 2, cells := 0, slots := 0, locals := 47 }
theorem pd_X0_stepsToRing : yX0_stepsToRing.cls ≠ "java/lang/invoke/MethodHandle" ∧ yX0_stepsToRing.cls ≠ "java/lang/invoke/VarHandle" ∧ (parseMethodDescriptor yX0_stepsToRing.desc).map (fun d => d.parameters.length) = some 1 := by decide +kernel
theorem dX0_stepsToRing_0 : decode cX0_stepsToRing 0 = .ok (.aload_n 0, 1) := by decide +kernel
theorem dX0_stepsToRing_1 : decode cX0_stepsToRing 1 = .ok (.iload_n 1, 1) := by decide +kernel
theorem dX0_stepsToRing_2 : decode cX0_stepsToRing 2 = .ok (.invokevirtual 122, 3) := by decide +kernel
theorem dX0_stepsToRing_5 : decode cX0_stepsToRing 5 = .ok (.istore_n 2, 1) := by decide +kernel
theorem dX0_stepsToRing_6 : decode cX0_stepsToRing 6 = .ok (.iload_n 1, 1) := by decide +kernel
theorem dX0_stepsToRing_7 : decode cX0_stepsToRing 7 = .ok (.istore_n 3, 1) := by decide +kernel
theorem dX0_stepsToRing_8 : decode cX0_stepsToRing 8 = .ok (.iconst 0, 1) := by decide +kernel
theorem dX0_stepsToRing_9 : decode cX0_stepsToRing 9 = .ok (.istore 4, 2) := by decide +kernel
theorem dX0_stepsToRing_11 : decode cX0_stepsToRing 11 = .ok (.iconst 0, 1) := by decide +kernel
theorem dX0_stepsToRing_12 : decode cX0_stepsToRing 12 = .ok (.istore 5, 2) := by decide +kernel
theorem dX0_stepsToRing_14 : decode cX0_stepsToRing 14 = .ok (.iload 5, 2) := by decide +kernel
theorem dX0_stepsToRing_16 : decode cX0_stepsToRing 16 = .ok (.aload_n 0, 1) := by decide +kernel
theorem dX0_stepsToRing_17 : decode cX0_stepsToRing 17 = .ok (.getfield 39, 3) := by decide +kernel
theorem dX0_stepsToRing_20 : decode cX0_stepsToRing 20 = .ok (.if_icmp .ge 27, 3) := by decide +kernel
theorem dX0_stepsToRing_23 : decode cX0_stepsToRing 23 = .ok (.iload_n 2, 1) := by decide +kernel
theorem dX0_stepsToRing_24 : decode cX0_stepsToRing 24 = .ok (.iload_n 3, 1) := by decide +kernel
theorem dX0_stepsToRing_25 : decode cX0_stepsToRing 25 = .ok (.invokestatic 128, 3) := by decide +kernel
theorem dX0_stepsToRing_28 : decode cX0_stepsToRing 28 = .ok (.ifCond .ne 19, 3) := by decide +kernel
theorem dX0_stepsToRing_31 : decode cX0_stepsToRing 31 = .ok (.aload_n 0, 1) := by decide +kernel
theorem dX0_stepsToRing_32 : decode cX0_stepsToRing 32 = .ok (.getfield 18, 3) := by decide +kernel
theorem dX0_stepsToRing_35 : decode cX0_stepsToRing 35 = .ok (.iload_n 3, 1) := by decide +kernel
theorem dX0_stepsToRing_36 : decode cX0_stepsToRing 36 = .ok (.iaload, 1) := by decide +kernel
theorem dX0_stepsToRing_37 : decode cX0_stepsToRing 37 = .ok (.istore_n 3, 1) := by decide +kernel
theorem dX0_stepsToRing_38 : decode cX0_stepsToRing 38 = .ok (.iinc 4 1, 3) := by decide +kernel
theorem dX0_stepsToRing_41 : decode cX0_stepsToRing 41 = .ok (.iinc 5 1, 3) := by decide +kernel
theorem dX0_stepsToRing_44 : decode cX0_stepsToRing 44 = .ok (.goto (-30), 3) := by decide +kernel
theorem dX0_stepsToRing_47 : decode cX0_stepsToRing 47 = .ok (.iload 4, 2) := by decide +kernel
theorem dX0_stepsToRing_49 : decode cX0_stepsToRing 49 = .ok (.ireturn, 1) := by decide +kernel
set_option maxHeartbeats 4000000 in
set_option maxRecDepth 100000 in
theorem g_X0_stepsToRing {E : fh_E} {M : fh_M} (C : fh_Cx E M cX0_stepsToRing 6 RX0 ((some FieldType.int)) rm_X0_stepsToRing) (Hr : fh_Rt E M) (k1 : Nat) (a2 : Int32) (σ3 : fh_S) : fh_Go E M 6 fh_vI 0 [(0, .ref (fh_ad E k1)), (1, .int a2)] [] σ3 (f_X0_stepsToRing k1 a2 σ3) := by
  have hok := fh_cok C
  refine go_ob ?_
  refine go_aload_n C 0 rfl rfl dX0_stepsToRing_0 ?_
  refine go_iload_n C 1 rfl rfl dX0_stepsToRing_1 ?_
  refine go_callVI C (st := []) [.int a2] (m_X0_ringSet E _ hok k1 a2 σ3) (fun _ h => fh_ob_ok h) rfl rfl ⟨q_338, q_326, q_327, q_2, q_328⟩ pd_X0_ringSet rfl ⟨⟨Nat.le_of_ble_eq_true rfl, Nat.le_of_ble_eq_true rfl⟩, rfl, rfl⟩ (Nat.le_of_ble_eq_true rfl) dX0_stepsToRing_2 (fun r5 σ4 => ?_)
  refine go_istore_n C [(2, .int r5), (0, .ref (fh_ad E k1)), (1, .int a2)] rfl rfl (by decide) dX0_stepsToRing_5 ?_
  refine go_iload_n C 2 rfl rfl dX0_stepsToRing_6 ?_
  refine go_istore_n C [(3, .int a2), (2, .int r5), (0, .ref (fh_ad E k1)), (1, .int a2)] rfl rfl (by decide) dX0_stepsToRing_7 ?_
  refine go_iconst C (0 : Int32) dX0_stepsToRing_8 rfl ?_
  refine go_istore C [(4, .int ((0 : Int32))), (3, .int a2), (2, .int r5), (0, .ref (fh_ad E k1)), (1, .int a2)] rfl (by decide) dX0_stepsToRing_9 ?_
  refine go_iconst C (0 : Int32) dX0_stepsToRing_11 rfl ?_
  refine go_istore C [(5, .int ((0 : Int32))), (4, .int ((0 : Int32))), (3, .int a2), (2, .int r5), (0, .ref (fh_ad E k1)), (1, .int a2)] rfl (by decide) dX0_stepsToRing_12 ?_
  refine go_lv [4, 3, 2, 1, 0] (lv' := [(0, .ref (fh_ad E k1)), (2, .int r5), (3, .int a2), (4, .int ((0 : Int32))), (5, .int ((0 : Int32)))]) rfl ?_
  refine go_fx (fun (r10 : Int32 → Int32 → Int32 → fh_S → Option (Int32 × fh_S)) => ∀ (x6 : Int32) (x7 : Int32) (x8 : Int32) (σ9 : fh_S), fh_Go E M 6 fh_vI 14 [(0, .ref (fh_ad E k1)), (2, .int r5), (3, .int x6), (4, .int x7), (5, .int x8)] [] σ9 (r10 x6 x7 x8 σ9)) ?_ ?_ fh_fu a2 ((0 : Int32)) ((0 : Int32)) σ4
  · intro x6 x7 x8 σ9
    exact go_none
  · intro r10 hr10 x6 x7 x8 σ9
    refine go_iload C 4 rfl dX0_stepsToRing_14 ?_
    refine go_aload_n C 0 rfl rfl dX0_stepsToRing_16 ?_
    refine go_gi (ci := 0) (j := 9) C fh_in0 rfl (by decide) rfl q_46 dX0_stepsToRing_17 (fun v11 => ?_)
    refine go_icmp_ge (tgt := 47) C dX0_stepsToRing_20 rfl (fun _ => ?_) (fun _ => ?_)
    · refine go_iload C 3 rfl dX0_stepsToRing_47 ?_
      exact go_iret C Hr rfl dX0_stepsToRing_49
    · refine go_iload_n C 1 rfl rfl dX0_stepsToRing_23 ?_
      refine go_iload_n C 2 rfl rfl dX0_stepsToRing_24 ?_
      refine go_callNI C (st := []) [.int r5, .int x6] (m_X4_isIn E _ hok r5 x6 σ9) rfl ⟨List.mem_of_getElem? (i := 7) rfl, q_355, q_1, q_356⟩ pd_X4_isIn rfl ⟨⟨Nat.le_of_ble_eq_true rfl, Nat.le_of_ble_eq_true rfl⟩, rfl, rfl⟩ (Nat.le_of_ble_eq_true rfl) dX0_stepsToRing_25 (fun r13 σ12 => ?_)
      refine go_if_ne (tgt := 47) C dX0_stepsToRing_28 rfl (fun _ => ?_) (fun _ => ?_)
      · refine go_iload C 3 rfl dX0_stepsToRing_47 ?_
        exact go_iret C Hr rfl dX0_stepsToRing_49
      · refine go_aload_n C 0 rfl rfl dX0_stepsToRing_31 ?_
        refine go_gr (ci := 0) (j := 2) C fh_in0 rfl (by decide) rfl q_33 dX0_stepsToRing_32 (fun k14 => ?_)
        refine go_iload_n C 2 rfl rfl dX0_stepsToRing_35 ?_
        refine go_iald C dX0_stepsToRing_36 (fun v15 => ?_)
        refine go_istore_n C [(3, .int v15), (0, .ref (fh_ad E k1)), (2, .int r5), (4, .int x7), (5, .int x8)] rfl rfl (by decide) dX0_stepsToRing_37 ?_
        refine go_iinc C (x7 + 1) 3 [(4, .int (x7 + 1)), (3, .int v15), (0, .ref (fh_ad E k1)), (2, .int r5), (5, .int x8)] rfl rfl rfl (by decide) dX0_stepsToRing_38 ?_
        refine go_iinc C (x8 + 1) 4 [(5, .int (x8 + 1)), (4, .int (x7 + 1)), (3, .int v15), (0, .ref (fh_ad E k1)), (2, .int r5)] rfl rfl rfl (by decide) dX0_stepsToRing_41 ?_
        refine go_goto C 14 dX0_stepsToRing_44 rfl ?_
        refine go_lv [3, 4, 2, 1, 0] (lv' := [(0, .ref (fh_ad E k1)), (2, .int r5), (3, .int v15), (4, .int (x7 + 1)), (5, .int (x8 + 1))]) rfl ?_
        exact hr10 v15 (x7 + 1) (x8 + 1) σ12
theorem m_X0_stepsToRing (E : fh_E) (l : Launch) (hok : fh_ok E) (k1 : Nat) (a2 : Int32) (σ3 : fh_S) : fh_Met E l yX0_stepsToRing cX0_stepsToRing 6 ((some FieldType.int)) rm_X0_stepsToRing fh_vI [.ref (fh_ad E k1), .int a2] σ3 (f_X0_stepsToRing k1 a2 σ3) := fh_met hok (by decide +kernel) (Nat.le_of_ble_eq_true rfl) (fun M _ C Hr => g_X0_stepsToRing C Hr k1 a2 σ3)
def f_X0_underSet_J30 (r7 : Int32 → Int32 → fh_S → Option (Int32 × fh_S)) (x5 : Int32) : Int32 → fh_S → Option (Int32 × fh_S) := fun x13 σ14 => r7 x13 (x5 + 1) σ14
def f_X0_underSet_B4 (k1 : Nat) (a2 : Int32) (r7 : Int32 → Int32 → fh_S → Option (Int32 × fh_S)) : Int32 → Int32 → fh_S → Option (Int32 × fh_S) := fun x4 x5 σ6 => (fh_gi σ6 0 k1 9).bind fun v8 => if v8 ≤ x5 then some (x4, σ6) else fh_cb (f_X0_waySet k1 x5 σ6) fun r10 σ9 => fh_cb (f_X4_isIn r10 a2 σ9) fun r12 σ11 => fh_jn (f_X0_underSet_J30 r7 x5) (fun j15 => if r12 = 0 then j15 x4 σ11 else j15 (x4 ||| (((1 : Int32)) <<< (x5 &&& 31))) σ11)
def f_X0_underSet (k1 : Nat) (a2 : Int32) (σ3 : fh_S) : Option (Int32 × fh_S) := fh_ob 0 k1 (fh_fx (ρ := Int32 → Int32 → fh_S → Option (Int32 × fh_S)) (fun _ _ _ => none) (f_X0_underSet_B4 k1 a2) fh_fu ((0 : Int32)) ((0 : Int32)) σ3)
abbrev rm_X0_underSet : Room := { frames := 1, cells := 0, slots := 0, locals := 24 }
theorem pd_X0_underSet : yX0_underSet.cls ≠ "java/lang/invoke/MethodHandle" ∧ yX0_underSet.cls ≠ "java/lang/invoke/VarHandle" ∧ (parseMethodDescriptor yX0_underSet.desc).map (fun d => d.parameters.length) = some 1 := by decide +kernel
theorem dX0_underSet_0 : decode cX0_underSet 0 = .ok (.iconst 0, 1) := by decide +kernel
theorem dX0_underSet_1 : decode cX0_underSet 1 = .ok (.istore_n 2, 1) := by decide +kernel
theorem dX0_underSet_2 : decode cX0_underSet 2 = .ok (.iconst 0, 1) := by decide +kernel
theorem dX0_underSet_3 : decode cX0_underSet 3 = .ok (.istore_n 3, 1) := by decide +kernel
theorem dX0_underSet_4 : decode cX0_underSet 4 = .ok (.iload_n 3, 1) := by decide +kernel
theorem dX0_underSet_5 : decode cX0_underSet 5 = .ok (.aload_n 0, 1) := by decide +kernel
theorem dX0_underSet_6 : decode cX0_underSet 6 = .ok (.getfield 39, 3) := by decide +kernel
theorem dX0_underSet_9 : decode cX0_underSet 9 = .ok (.if_icmp .ge 27, 3) := by decide +kernel
theorem dX0_underSet_12 : decode cX0_underSet 12 = .ok (.aload_n 0, 1) := by decide +kernel
theorem dX0_underSet_13 : decode cX0_underSet 13 = .ok (.iload_n 3, 1) := by decide +kernel
theorem dX0_underSet_14 : decode cX0_underSet 14 = .ok (.invokevirtual 119, 3) := by decide +kernel
theorem dX0_underSet_17 : decode cX0_underSet 17 = .ok (.iload_n 1, 1) := by decide +kernel
theorem dX0_underSet_18 : decode cX0_underSet 18 = .ok (.invokestatic 128, 3) := by decide +kernel
theorem dX0_underSet_21 : decode cX0_underSet 21 = .ok (.ifCond .eq 9, 3) := by decide +kernel
theorem dX0_underSet_24 : decode cX0_underSet 24 = .ok (.iload_n 2, 1) := by decide +kernel
theorem dX0_underSet_25 : decode cX0_underSet 25 = .ok (.iconst 1, 1) := by decide +kernel
theorem dX0_underSet_26 : decode cX0_underSet 26 = .ok (.iload_n 3, 1) := by decide +kernel
theorem dX0_underSet_27 : decode cX0_underSet 27 = .ok (.ishl, 1) := by decide +kernel
theorem dX0_underSet_28 : decode cX0_underSet 28 = .ok (.ior, 1) := by decide +kernel
theorem dX0_underSet_29 : decode cX0_underSet 29 = .ok (.istore_n 2, 1) := by decide +kernel
theorem dX0_underSet_30 : decode cX0_underSet 30 = .ok (.iinc 3 1, 3) := by decide +kernel
theorem dX0_underSet_33 : decode cX0_underSet 33 = .ok (.goto (-29), 3) := by decide +kernel
theorem dX0_underSet_36 : decode cX0_underSet 36 = .ok (.iload_n 2, 1) := by decide +kernel
theorem dX0_underSet_37 : decode cX0_underSet 37 = .ok (.ireturn, 1) := by decide +kernel
set_option maxHeartbeats 4000000 in
set_option maxRecDepth 100000 in
theorem g_X0_underSet {E : fh_E} {M : fh_M} (C : fh_Cx E M cX0_underSet 4 RX0 ((some FieldType.int)) rm_X0_underSet) (Hr : fh_Rt E M) (k1 : Nat) (a2 : Int32) (σ3 : fh_S) : fh_Go E M 4 fh_vI 0 [(0, .ref (fh_ad E k1)), (1, .int a2)] [] σ3 (f_X0_underSet k1 a2 σ3) := by
  have hok := fh_cok C
  refine go_ob ?_
  refine go_iconst C (0 : Int32) dX0_underSet_0 rfl ?_
  refine go_istore_n C [(2, .int ((0 : Int32))), (0, .ref (fh_ad E k1)), (1, .int a2)] rfl rfl (by decide) dX0_underSet_1 ?_
  refine go_iconst C (0 : Int32) dX0_underSet_2 rfl ?_
  refine go_istore_n C [(3, .int ((0 : Int32))), (2, .int ((0 : Int32))), (0, .ref (fh_ad E k1)), (1, .int a2)] rfl rfl (by decide) dX0_underSet_3 ?_
  refine go_lv [2, 3, 1, 0] (lv' := [(0, .ref (fh_ad E k1)), (1, .int a2), (2, .int ((0 : Int32))), (3, .int ((0 : Int32)))]) rfl ?_
  refine go_fx (fun (r7 : Int32 → Int32 → fh_S → Option (Int32 × fh_S)) => ∀ (x4 : Int32) (x5 : Int32) (σ6 : fh_S), fh_Go E M 4 fh_vI 4 [(0, .ref (fh_ad E k1)), (1, .int a2), (2, .int x4), (3, .int x5)] [] σ6 (r7 x4 x5 σ6)) ?_ ?_ fh_fu ((0 : Int32)) ((0 : Int32)) σ3
  · intro x4 x5 σ6
    exact go_none
  · intro r7 hr7 x4 x5 σ6
    refine go_iload_n C 3 rfl rfl dX0_underSet_4 ?_
    refine go_aload_n C 0 rfl rfl dX0_underSet_5 ?_
    refine go_gi (ci := 0) (j := 9) C fh_in0 rfl (by decide) rfl q_46 dX0_underSet_6 (fun v8 => ?_)
    refine go_icmp_ge (tgt := 36) C dX0_underSet_9 rfl (fun _ => ?_) (fun _ => ?_)
    · refine go_iload_n C 2 rfl rfl dX0_underSet_36 ?_
      exact go_iret C Hr rfl dX0_underSet_37
    · refine go_aload_n C 0 rfl rfl dX0_underSet_12 ?_
      refine go_iload_n C 3 rfl rfl dX0_underSet_13 ?_
      refine go_callVI C (st := []) [.int x5] (m_X0_waySet E _ hok k1 x5 σ6) (fun _ h => fh_ob_ok h) rfl rfl ⟨q_329, q_318, q_319, q_2, q_320⟩ pd_X0_waySet rfl ⟨⟨Nat.le_of_ble_eq_true rfl, Nat.le_of_ble_eq_true rfl⟩, rfl, rfl⟩ (Nat.le_of_ble_eq_true rfl) dX0_underSet_14 (fun r10 σ9 => ?_)
      refine go_iload_n C 1 rfl rfl dX0_underSet_17 ?_
      refine go_callNI C (st := []) [.int r10, .int a2] (m_X4_isIn E _ hok r10 a2 σ9) rfl ⟨List.mem_of_getElem? (i := 7) rfl, q_355, q_1, q_356⟩ pd_X4_isIn rfl ⟨⟨Nat.le_of_ble_eq_true rfl, Nat.le_of_ble_eq_true rfl⟩, rfl, rfl⟩ (Nat.le_of_ble_eq_true rfl) dX0_underSet_18 (fun r12 σ11 => ?_)
      refine go_jn (fun (j15 : Int32 → fh_S → Option (Int32 × fh_S)) => ∀ (x13 : Int32) (σ14 : fh_S), fh_Go E M 4 fh_vI 30 [(0, .ref (fh_ad E k1)), (1, .int a2), (2, .int x13), (3, .int x5)] [] σ14 (j15 x13 σ14)) ?_ (fun j15 hj15 => ?_)
      · intro x13 σ14
        refine go_iinc C (x5 + 1) 3 [(3, .int (x5 + 1)), (0, .ref (fh_ad E k1)), (1, .int a2), (2, .int x13)] rfl rfl rfl (by decide) dX0_underSet_30 ?_
        refine go_goto C 4 dX0_underSet_33 rfl ?_
        refine go_lv [1, 2, 3, 0] (lv' := [(0, .ref (fh_ad E k1)), (1, .int a2), (2, .int x13), (3, .int (x5 + 1))]) rfl ?_
        exact hr7 x13 (x5 + 1) σ14
      refine go_if_eq (tgt := 30) C dX0_underSet_21 rfl (fun _ => ?_) (fun _ => ?_)
      · exact hj15 x4 σ11
      · refine go_iload_n C 2 rfl rfl dX0_underSet_24 ?_
        refine go_iconst C (1 : Int32) dX0_underSet_25 rfl ?_
        refine go_iload_n C 3 rfl rfl dX0_underSet_26 ?_
        refine go_ishl C dX0_underSet_27 ?_
        refine go_ior C dX0_underSet_28 ?_
        refine go_istore_n C [(2, .int (x4 ||| (((1 : Int32)) <<< (x5 &&& 31)))), (0, .ref (fh_ad E k1)), (1, .int a2), (3, .int x5)] rfl rfl (by decide) dX0_underSet_29 ?_
        refine go_lv [1, 2, 0, 3] (lv' := [(0, .ref (fh_ad E k1)), (1, .int a2), (2, .int (x4 ||| (((1 : Int32)) <<< (x5 &&& 31)))), (3, .int x5)]) rfl ?_
        exact hj15 (x4 ||| (((1 : Int32)) <<< (x5 &&& 31))) σ11
theorem m_X0_underSet (E : fh_E) (l : Launch) (hok : fh_ok E) (k1 : Nat) (a2 : Int32) (σ3 : fh_S) : fh_Met E l yX0_underSet cX0_underSet 4 ((some FieldType.int)) rm_X0_underSet fh_vI [.ref (fh_ad E k1), .int a2] σ3 (f_X0_underSet k1 a2 σ3) := fh_met hok (by decide +kernel) (Nat.le_of_ble_eq_true rfl) (fun M _ C Hr => g_X0_underSet C Hr k1 a2 σ3)
def f_X1_isDigit (a1 : Int32) (σ2 : fh_S) : Option (Int32 × fh_S) := if a1 < ((48 : Int32)) then fh_rz ((0 : Int32)) σ2 else if ((57 : Int32)) < a1 then fh_rz ((0 : Int32)) σ2 else fh_rz ((1 : Int32)) σ2
abbrev rm_X1_isDigit : Room := { frames := 0, cells := 0, slots := 0, locals := 0 }
theorem pd_X1_isDigit : yX1_isDigit.cls ≠ "java/lang/invoke/MethodHandle" ∧ yX1_isDigit.cls ≠ "java/lang/invoke/VarHandle" ∧ (parseMethodDescriptor yX1_isDigit.desc).map (fun d => d.parameters.length) = some 1 := by decide +kernel
theorem dX1_isDigit_0 : decode cX1_isDigit 0 = .ok (.iload_n 0, 1) := by decide +kernel
theorem dX1_isDigit_1 : decode cX1_isDigit 1 = .ok (.bipush 48, 2) := by decide +kernel
theorem dX1_isDigit_3 : decode cX1_isDigit 3 = .ok (.if_icmp .lt 13, 3) := by decide +kernel
theorem dX1_isDigit_6 : decode cX1_isDigit 6 = .ok (.iload_n 0, 1) := by decide +kernel
theorem dX1_isDigit_7 : decode cX1_isDigit 7 = .ok (.bipush 57, 2) := by decide +kernel
theorem dX1_isDigit_9 : decode cX1_isDigit 9 = .ok (.if_icmp .gt 7, 3) := by decide +kernel
theorem dX1_isDigit_12 : decode cX1_isDigit 12 = .ok (.iconst 1, 1) := by decide +kernel
theorem dX1_isDigit_13 : decode cX1_isDigit 13 = .ok (.goto 4, 3) := by decide +kernel
theorem dX1_isDigit_16 : decode cX1_isDigit 16 = .ok (.iconst 0, 1) := by decide +kernel
theorem dX1_isDigit_17 : decode cX1_isDigit 17 = .ok (.ireturn, 1) := by decide +kernel
set_option maxHeartbeats 4000000 in
set_option maxRecDepth 100000 in
theorem g_X1_isDigit {E : fh_E} {M : fh_M} (C : fh_Cx E M cX1_isDigit 1 RX1 ((some FieldType.boolean)) rm_X1_isDigit) (Hr : fh_Rt E M) (a1 : Int32) (σ2 : fh_S) : fh_Go E M 1 fh_vI 0 [(0, .int a1)] [] σ2 (f_X1_isDigit a1 σ2) := by
  have hok := fh_cok C
  refine go_iload_n C 0 rfl rfl dX1_isDigit_0 ?_
  refine go_bipush C (48 : Int32) dX1_isDigit_1 rfl ?_
  refine go_icmp_lt (tgt := 16) C dX1_isDigit_3 rfl (fun _ => ?_) (fun _ => ?_)
  · refine go_iconst C (0 : Int32) dX1_isDigit_16 rfl ?_
    exact go_zret C Hr dX1_isDigit_17
  · refine go_iload_n C 0 rfl rfl dX1_isDigit_6 ?_
    refine go_bipush C (57 : Int32) dX1_isDigit_7 rfl ?_
    refine go_icmp_gt (tgt := 16) C dX1_isDigit_9 rfl (fun _ => ?_) (fun _ => ?_)
    · refine go_iconst C (0 : Int32) dX1_isDigit_16 rfl ?_
      exact go_zret C Hr dX1_isDigit_17
    · refine go_iconst C (1 : Int32) dX1_isDigit_12 rfl ?_
      refine go_goto C 17 dX1_isDigit_13 rfl ?_
      exact go_zret C Hr dX1_isDigit_17
theorem m_X1_isDigit (E : fh_E) (l : Launch) (hok : fh_ok E) (a1 : Int32) (σ2 : fh_S) : fh_Met E l yX1_isDigit cX1_isDigit 1 ((some FieldType.boolean)) rm_X1_isDigit fh_vI [.int a1] σ2 (f_X1_isDigit a1 σ2) := fh_met hok (by decide +kernel) (Nat.le_of_ble_eq_true rfl) (fun M _ C Hr => g_X1_isDigit C Hr a1 σ2)
def f_X1_isLetter (a1 : Int32) (σ2 : fh_S) : Option (Int32 × fh_S) := if a1 < ((97 : Int32)) then fh_rz ((0 : Int32)) σ2 else if ((122 : Int32)) < a1 then fh_rz ((0 : Int32)) σ2 else fh_rz ((1 : Int32)) σ2
abbrev rm_X1_isLetter : Room := { frames := 0, cells := 0, slots := 0, locals := 0 }
theorem pd_X1_isLetter : yX1_isLetter.cls ≠ "java/lang/invoke/MethodHandle" ∧ yX1_isLetter.cls ≠ "java/lang/invoke/VarHandle" ∧ (parseMethodDescriptor yX1_isLetter.desc).map (fun d => d.parameters.length) = some 1 := by decide +kernel
theorem dX1_isLetter_0 : decode cX1_isLetter 0 = .ok (.iload_n 0, 1) := by decide +kernel
theorem dX1_isLetter_1 : decode cX1_isLetter 1 = .ok (.bipush 97, 2) := by decide +kernel
theorem dX1_isLetter_3 : decode cX1_isLetter 3 = .ok (.if_icmp .lt 13, 3) := by decide +kernel
theorem dX1_isLetter_6 : decode cX1_isLetter 6 = .ok (.iload_n 0, 1) := by decide +kernel
theorem dX1_isLetter_7 : decode cX1_isLetter 7 = .ok (.bipush 122, 2) := by decide +kernel
theorem dX1_isLetter_9 : decode cX1_isLetter 9 = .ok (.if_icmp .gt 7, 3) := by decide +kernel
theorem dX1_isLetter_12 : decode cX1_isLetter 12 = .ok (.iconst 1, 1) := by decide +kernel
theorem dX1_isLetter_13 : decode cX1_isLetter 13 = .ok (.goto 4, 3) := by decide +kernel
theorem dX1_isLetter_16 : decode cX1_isLetter 16 = .ok (.iconst 0, 1) := by decide +kernel
theorem dX1_isLetter_17 : decode cX1_isLetter 17 = .ok (.ireturn, 1) := by decide +kernel
set_option maxHeartbeats 4000000 in
set_option maxRecDepth 100000 in
theorem g_X1_isLetter {E : fh_E} {M : fh_M} (C : fh_Cx E M cX1_isLetter 1 RX1 ((some FieldType.boolean)) rm_X1_isLetter) (Hr : fh_Rt E M) (a1 : Int32) (σ2 : fh_S) : fh_Go E M 1 fh_vI 0 [(0, .int a1)] [] σ2 (f_X1_isLetter a1 σ2) := by
  have hok := fh_cok C
  refine go_iload_n C 0 rfl rfl dX1_isLetter_0 ?_
  refine go_bipush C (97 : Int32) dX1_isLetter_1 rfl ?_
  refine go_icmp_lt (tgt := 16) C dX1_isLetter_3 rfl (fun _ => ?_) (fun _ => ?_)
  · refine go_iconst C (0 : Int32) dX1_isLetter_16 rfl ?_
    exact go_zret C Hr dX1_isLetter_17
  · refine go_iload_n C 0 rfl rfl dX1_isLetter_6 ?_
    refine go_bipush C (122 : Int32) dX1_isLetter_7 rfl ?_
    refine go_icmp_gt (tgt := 16) C dX1_isLetter_9 rfl (fun _ => ?_) (fun _ => ?_)
    · refine go_iconst C (0 : Int32) dX1_isLetter_16 rfl ?_
      exact go_zret C Hr dX1_isLetter_17
    · refine go_iconst C (1 : Int32) dX1_isLetter_12 rfl ?_
      refine go_goto C 17 dX1_isLetter_13 rfl ?_
      exact go_zret C Hr dX1_isLetter_17
theorem m_X1_isLetter (E : fh_E) (l : Launch) (hok : fh_ok E) (a1 : Int32) (σ2 : fh_S) : fh_Met E l yX1_isLetter cX1_isLetter 1 ((some FieldType.boolean)) rm_X1_isLetter fh_vI [.int a1] σ2 (f_X1_isLetter a1 σ2) := fh_met hok (by decide +kernel) (Nat.le_of_ble_eq_true rfl) (fun M _ C Hr => g_X1_isLetter C Hr a1 σ2)
def f_X3_byteAt (k1 : Nat) (a2 : Int32) (σ3 : fh_S) : Option (Int32 × fh_S) := fh_ob 3 k1 (if a2 < 0 then some ((-1 : Int32), σ3) else (fh_gi σ3 3 k1 1).bind fun v4 => if v4 ≤ a2 then some ((-1 : Int32), σ3) else (fh_gr 3 k1 0).bind fun k5 => (fh_ld σ3 k5 a2).bind fun v6 => some (v6, σ3))
abbrev rm_X3_byteAt : Room := { frames := 0, cells := 0, slots := 0, locals := 0 }
theorem pd_X3_byteAt : yX3_byteAt.cls ≠ "java/lang/invoke/MethodHandle" ∧ yX3_byteAt.cls ≠ "java/lang/invoke/VarHandle" ∧ (parseMethodDescriptor yX3_byteAt.desc).map (fun d => d.parameters.length) = some 1 := by decide +kernel
theorem dX3_byteAt_0 : decode cX3_byteAt 0 = .ok (.iload_n 1, 1) := by decide +kernel
theorem dX3_byteAt_1 : decode cX3_byteAt 1 = .ok (.ifCond .lt 20, 3) := by decide +kernel
theorem dX3_byteAt_4 : decode cX3_byteAt 4 = .ok (.iload_n 1, 1) := by decide +kernel
theorem dX3_byteAt_5 : decode cX3_byteAt 5 = .ok (.aload_n 0, 1) := by decide +kernel
theorem dX3_byteAt_6 : decode cX3_byteAt 6 = .ok (.getfield 15, 3) := by decide +kernel
theorem dX3_byteAt_9 : decode cX3_byteAt 9 = .ok (.if_icmp .ge 12, 3) := by decide +kernel
theorem dX3_byteAt_12 : decode cX3_byteAt 12 = .ok (.aload_n 0, 1) := by decide +kernel
theorem dX3_byteAt_13 : decode cX3_byteAt 13 = .ok (.getfield 9, 3) := by decide +kernel
theorem dX3_byteAt_16 : decode cX3_byteAt 16 = .ok (.iload_n 1, 1) := by decide +kernel
theorem dX3_byteAt_17 : decode cX3_byteAt 17 = .ok (.iaload, 1) := by decide +kernel
theorem dX3_byteAt_18 : decode cX3_byteAt 18 = .ok (.goto 4, 3) := by decide +kernel
theorem dX3_byteAt_21 : decode cX3_byteAt 21 = .ok (.iconst (-1), 1) := by decide +kernel
theorem dX3_byteAt_22 : decode cX3_byteAt 22 = .ok (.ireturn, 1) := by decide +kernel
set_option maxHeartbeats 4000000 in
set_option maxRecDepth 100000 in
theorem g_X3_byteAt {E : fh_E} {M : fh_M} (C : fh_Cx E M cX3_byteAt 2 RX3 ((some FieldType.int)) rm_X3_byteAt) (Hr : fh_Rt E M) (k1 : Nat) (a2 : Int32) (σ3 : fh_S) : fh_Go E M 2 fh_vI 0 [(0, .ref (fh_ad E k1)), (1, .int a2)] [] σ3 (f_X3_byteAt k1 a2 σ3) := by
  have hok := fh_cok C
  refine go_ob ?_
  refine go_iload_n C 1 rfl rfl dX3_byteAt_0 ?_
  refine go_if_lt (tgt := 21) C dX3_byteAt_1 rfl (fun _ => ?_) (fun _ => ?_)
  · refine go_iconst C (-1 : Int32) dX3_byteAt_21 rfl ?_
    exact go_iret C Hr rfl dX3_byteAt_22
  · refine go_iload_n C 1 rfl rfl dX3_byteAt_4 ?_
    refine go_aload_n C 0 rfl rfl dX3_byteAt_5 ?_
    refine go_gi (ci := 3) (j := 1) C fh_in3 rfl (by decide) rfl q_86 dX3_byteAt_6 (fun v4 => ?_)
    refine go_icmp_ge (tgt := 21) C dX3_byteAt_9 rfl (fun _ => ?_) (fun _ => ?_)
    · refine go_iconst C (-1 : Int32) dX3_byteAt_21 rfl ?_
      exact go_iret C Hr rfl dX3_byteAt_22
    · refine go_aload_n C 0 rfl rfl dX3_byteAt_12 ?_
      refine go_gr (ci := 3) (j := 0) C fh_in3 rfl (by decide) rfl q_85 dX3_byteAt_13 (fun k5 => ?_)
      refine go_iload_n C 1 rfl rfl dX3_byteAt_16 ?_
      refine go_iald C dX3_byteAt_17 (fun v6 => ?_)
      refine go_goto C 22 dX3_byteAt_18 rfl ?_
      exact go_iret C Hr rfl dX3_byteAt_22
theorem m_X3_byteAt (E : fh_E) (l : Launch) (hok : fh_ok E) (k1 : Nat) (a2 : Int32) (σ3 : fh_S) : fh_Met E l yX3_byteAt cX3_byteAt 2 ((some FieldType.int)) rm_X3_byteAt fh_vI [.ref (fh_ad E k1), .int a2] σ3 (f_X3_byteAt k1 a2 σ3) := fh_met hok (by decide +kernel) (Nat.le_of_ble_eq_true rfl) (fun M _ C Hr => g_X3_byteAt C Hr k1 a2 σ3)
def f_X1_readDigits_B5 (k1 : Nat) (r5 : fh_S → Option (Unit × fh_S)) : fh_S → Option (Unit × fh_S) := fun σ4 => (fh_gi σ4 1 k1 3).bind fun v6 => if ((120 : Int32)) ≤ v6 then some ((), σ4) else (fh_gr 1 k1 0).bind fun k7 => (fh_gi σ4 1 k1 3).bind fun v8 => fh_cb (f_X3_byteAt k7 v8 σ4) fun r10 σ9 => fh_cb (f_X1_isDigit r10 σ9) fun r12 σ11 => if r12 = 0 then some ((), σ11) else (fh_gi σ11 1 k1 4).bind fun v13 => (fh_gr 1 k1 0).bind fun k14 => (fh_gi σ11 1 k1 3).bind fun v15 => fh_cb (f_X3_byteAt k14 v15 σ11) fun r17 σ16 => fh_cb (f_J9_min_7cf53 ((1000 : Int32)) (((((10 : Int32)) * v13) + r17) - ((48 : Int32))) σ16) fun r19 σ18 => (fh_pf σ18 1 k1 4 r19).bind fun σ20 => (fh_gi σ20 1 k1 3).bind fun v21 => (fh_pf σ20 1 k1 3 (v21 + ((1 : Int32)))).bind fun σ22 => r5 σ22
def f_X1_readDigits (k1 : Nat) (σ2 : fh_S) : Option (Unit × fh_S) := fh_ob 1 k1 ((fh_pf σ2 1 k1 4 ((0 : Int32))).bind fun σ3 => fh_fx (ρ := fh_S → Option (Unit × fh_S)) (fun _ => none) (f_X1_readDigits_B5 k1) fh_fu σ3)
abbrev rm_X1_readDigits : Room := { frames := 1, cells := 0, slots := 0, locals := 21 }
theorem pd_X1_readDigits : yX1_readDigits.cls ≠ "java/lang/invoke/MethodHandle" ∧ yX1_readDigits.cls ≠ "java/lang/invoke/VarHandle" ∧ (parseMethodDescriptor yX1_readDigits.desc).map (fun d => d.parameters.length) = some 0 := by decide +kernel
theorem dX1_readDigits_0 : decode cX1_readDigits 0 = .ok (.aload_n 0, 1) := by decide +kernel
theorem dX1_readDigits_1 : decode cX1_readDigits 1 = .ok (.iconst 0, 1) := by decide +kernel
theorem dX1_readDigits_2 : decode cX1_readDigits 2 = .ok (.putfield 106, 3) := by decide +kernel
theorem dX1_readDigits_5 : decode cX1_readDigits 5 = .ok (.aload_n 0, 1) := by decide +kernel
theorem dX1_readDigits_6 : decode cX1_readDigits 6 = .ok (.getfield 19, 3) := by decide +kernel
theorem dX1_readDigits_9 : decode cX1_readDigits 9 = .ok (.bipush 120, 2) := by decide +kernel
theorem dX1_readDigits_11 : decode cX1_readDigits 11 = .ok (.if_icmp .ge 65, 3) := by decide +kernel
theorem dX1_readDigits_14 : decode cX1_readDigits 14 = .ok (.aload_n 0, 1) := by decide +kernel
theorem dX1_readDigits_15 : decode cX1_readDigits 15 = .ok (.getfield 9, 3) := by decide +kernel
theorem dX1_readDigits_18 : decode cX1_readDigits 18 = .ok (.aload_n 0, 1) := by decide +kernel
theorem dX1_readDigits_19 : decode cX1_readDigits 19 = .ok (.getfield 19, 3) := by decide +kernel
theorem dX1_readDigits_22 : decode cX1_readDigits 22 = .ok (.invokevirtual 101, 3) := by decide +kernel
theorem dX1_readDigits_25 : decode cX1_readDigits 25 = .ok (.invokestatic 145, 3) := by decide +kernel
theorem dX1_readDigits_28 : decode cX1_readDigits 28 = .ok (.ifCond .eq 48, 3) := by decide +kernel
theorem dX1_readDigits_31 : decode cX1_readDigits 31 = .ok (.aload_n 0, 1) := by decide +kernel
theorem dX1_readDigits_32 : decode cX1_readDigits 32 = .ok (.sipush 1000, 3) := by decide +kernel
theorem dX1_readDigits_35 : decode cX1_readDigits 35 = .ok (.bipush 10, 2) := by decide +kernel
theorem dX1_readDigits_37 : decode cX1_readDigits 37 = .ok (.aload_n 0, 1) := by decide +kernel
theorem dX1_readDigits_38 : decode cX1_readDigits 38 = .ok (.getfield 106, 3) := by decide +kernel
theorem dX1_readDigits_41 : decode cX1_readDigits 41 = .ok (.imul, 1) := by decide +kernel
theorem dX1_readDigits_42 : decode cX1_readDigits 42 = .ok (.aload_n 0, 1) := by decide +kernel
theorem dX1_readDigits_43 : decode cX1_readDigits 43 = .ok (.getfield 9, 3) := by decide +kernel
theorem dX1_readDigits_46 : decode cX1_readDigits 46 = .ok (.aload_n 0, 1) := by decide +kernel
theorem dX1_readDigits_47 : decode cX1_readDigits 47 = .ok (.getfield 19, 3) := by decide +kernel
theorem dX1_readDigits_50 : decode cX1_readDigits 50 = .ok (.invokevirtual 101, 3) := by decide +kernel
theorem dX1_readDigits_53 : decode cX1_readDigits 53 = .ok (.iadd, 1) := by decide +kernel
theorem dX1_readDigits_54 : decode cX1_readDigits 54 = .ok (.bipush 48, 2) := by decide +kernel
theorem dX1_readDigits_56 : decode cX1_readDigits 56 = .ok (.isub, 1) := by decide +kernel
theorem dX1_readDigits_57 : decode cX1_readDigits 57 = .ok (.invokestatic 151, 3) := by decide +kernel
theorem dX1_readDigits_60 : decode cX1_readDigits 60 = .ok (.putfield 106, 3) := by decide +kernel
theorem dX1_readDigits_63 : decode cX1_readDigits 63 = .ok (.aload_n 0, 1) := by decide +kernel
theorem dX1_readDigits_64 : decode cX1_readDigits 64 = .ok (.dup, 1) := by decide +kernel
theorem dX1_readDigits_65 : decode cX1_readDigits 65 = .ok (.getfield 19, 3) := by decide +kernel
theorem dX1_readDigits_68 : decode cX1_readDigits 68 = .ok (.iconst 1, 1) := by decide +kernel
theorem dX1_readDigits_69 : decode cX1_readDigits 69 = .ok (.iadd, 1) := by decide +kernel
theorem dX1_readDigits_70 : decode cX1_readDigits 70 = .ok (.putfield 19, 3) := by decide +kernel
theorem dX1_readDigits_73 : decode cX1_readDigits 73 = .ok (.goto (-68), 3) := by decide +kernel
theorem dX1_readDigits_76 : decode cX1_readDigits 76 = .ok (.return_, 1) := by decide +kernel
set_option maxHeartbeats 4000000 in
set_option maxRecDepth 100000 in
theorem g_X1_readDigits {E : fh_E} {M : fh_M} (C : fh_Cx E M cX1_readDigits 1 RX1 (none) rm_X1_readDigits) (Hr : fh_Rt E M) (k1 : Nat) (σ2 : fh_S) : fh_Go E M 1 fh_vU 0 [(0, .ref (fh_ad E k1))] [] σ2 (f_X1_readDigits k1 σ2) := by
  have hok := fh_cok C
  refine go_ob ?_
  refine go_aload_n C 0 rfl rfl dX1_readDigits_0 ?_
  refine go_iconst C (0 : Int32) dX1_readDigits_1 rfl ?_
  refine go_pf (ci := 1) (j := 4) C tyX1 tyX1_ok nmX1 fh_in1 rfl (by decide) rfl q_103 rfl rfl dX1_readDigits_2 (fun σ3 => ?_)
  refine go_fx (fun (r5 : fh_S → Option (Unit × fh_S)) => ∀  (σ4 : fh_S), fh_Go E M 1 fh_vU 5 [(0, .ref (fh_ad E k1))] [] σ4 (r5 σ4)) ?_ ?_ fh_fu σ3
  · intro σ4
    exact go_none
  · intro r5 hr5 σ4
    refine go_aload_n C 0 rfl rfl dX1_readDigits_5 ?_
    refine go_gi (ci := 1) (j := 3) C fh_in1 rfl (by decide) rfl q_102 dX1_readDigits_6 (fun v6 => ?_)
    refine go_bipush C (120 : Int32) dX1_readDigits_9 rfl ?_
    refine go_icmp_ge (tgt := 76) C dX1_readDigits_11 rfl (fun _ => ?_) (fun _ => ?_)
    · exact go_vret C Hr rfl dX1_readDigits_76
    · refine go_aload_n C 0 rfl rfl dX1_readDigits_14 ?_
      refine go_gr (ci := 1) (j := 0) C fh_in1 rfl (by decide) rfl q_99 dX1_readDigits_15 (fun k7 => ?_)
      refine go_aload_n C 0 rfl rfl dX1_readDigits_18 ?_
      refine go_gi (ci := 1) (j := 3) C fh_in1 rfl (by decide) rfl q_102 dX1_readDigits_19 (fun v8 => ?_)
      refine go_callVI C (st := []) [.int v8] (m_X3_byteAt E _ hok k7 v8 σ4) (fun _ h => fh_ob_ok h) rfl rfl ⟨q_538, q_539, q_540, q_3, q_541⟩ pd_X3_byteAt rfl ⟨⟨Nat.le_of_ble_eq_true rfl, Nat.le_of_ble_eq_true rfl⟩, rfl, rfl⟩ (Nat.le_of_ble_eq_true rfl) dX1_readDigits_22 (fun r10 σ9 => ?_)
      refine go_callSI C (st := []) [.int r10] (m_X1_isDigit E _ hok r10 σ9) rfl ⟨q_549, q_550, q_4, q_551⟩ pd_X1_isDigit rfl ⟨⟨Nat.le_of_ble_eq_true rfl, Nat.le_of_ble_eq_true rfl⟩, rfl, rfl⟩ (Nat.le_of_ble_eq_true rfl) dX1_readDigits_25 (fun r12 σ11 => ?_)
      refine go_if_eq (tgt := 76) C dX1_readDigits_28 rfl (fun _ => ?_) (fun _ => ?_)
      · exact go_vret C Hr rfl dX1_readDigits_76
      · refine go_aload_n C 0 rfl rfl dX1_readDigits_31 ?_
        refine go_sipush C (1000 : Int32) dX1_readDigits_32 rfl ?_
        refine go_bipush C (10 : Int32) dX1_readDigits_35 rfl ?_
        refine go_aload_n C 0 rfl rfl dX1_readDigits_37 ?_
        refine go_gi (ci := 1) (j := 4) C fh_in1 rfl (by decide) rfl q_103 dX1_readDigits_38 (fun v13 => ?_)
        refine go_imul C dX1_readDigits_41 ?_
        refine go_aload_n C 0 rfl rfl dX1_readDigits_42 ?_
        refine go_gr (ci := 1) (j := 0) C fh_in1 rfl (by decide) rfl q_99 dX1_readDigits_43 (fun k14 => ?_)
        refine go_aload_n C 0 rfl rfl dX1_readDigits_46 ?_
        refine go_gi (ci := 1) (j := 3) C fh_in1 rfl (by decide) rfl q_102 dX1_readDigits_47 (fun v15 => ?_)
        refine go_callVI C (st := [.int (((10 : Int32)) * v13), .int ((1000 : Int32)), .ref (fh_ad E k1)]) [.int v15] (m_X3_byteAt E _ hok k14 v15 σ11) (fun _ h => fh_ob_ok h) rfl rfl ⟨q_538, q_539, q_540, q_3, q_541⟩ pd_X3_byteAt rfl ⟨⟨Nat.le_of_ble_eq_true rfl, Nat.le_of_ble_eq_true rfl⟩, rfl, rfl⟩ (Nat.le_of_ble_eq_true rfl) dX1_readDigits_50 (fun r17 σ16 => ?_)
        refine go_iadd C dX1_readDigits_53 ?_
        refine go_bipush C (48 : Int32) dX1_readDigits_54 rfl ?_
        refine go_isub C dX1_readDigits_56 ?_
        refine go_callSI C (st := [.ref (fh_ad E k1)]) [.int ((1000 : Int32)), .int (((((10 : Int32)) * v13) + r17) - ((48 : Int32)))] (m_J9_min_7cf53 E _ hok ((1000 : Int32)) (((((10 : Int32)) * v13) + r17) - ((48 : Int32))) σ16) rfl ⟨q_556, q_190, q_7, q_191⟩ pd_J9_min_7cf53 rfl ⟨⟨Nat.le_of_ble_eq_true rfl, Nat.le_of_ble_eq_true rfl⟩, rfl, rfl⟩ (Nat.le_of_ble_eq_true rfl) dX1_readDigits_57 (fun r19 σ18 => ?_)
        refine go_pf (ci := 1) (j := 4) C tyX1 tyX1_ok nmX1 fh_in1 rfl (by decide) rfl q_103 rfl rfl dX1_readDigits_60 (fun σ20 => ?_)
        refine go_aload_n C 0 rfl rfl dX1_readDigits_63 ?_
        refine go_dup C rfl dX1_readDigits_64 ?_
        refine go_gi (ci := 1) (j := 3) C fh_in1 rfl (by decide) rfl q_102 dX1_readDigits_65 (fun v21 => ?_)
        refine go_iconst C (1 : Int32) dX1_readDigits_68 rfl ?_
        refine go_iadd C dX1_readDigits_69 ?_
        refine go_pf (ci := 1) (j := 3) C tyX1 tyX1_ok nmX1 fh_in1 rfl (by decide) rfl q_102 rfl rfl dX1_readDigits_70 (fun σ22 => ?_)
        refine go_goto C 5 dX1_readDigits_73 rfl ?_
        exact hr5 σ22
theorem m_X1_readDigits (E : fh_E) (l : Launch) (hok : fh_ok E) (k1 : Nat) (σ2 : fh_S) : fh_Met E l yX1_readDigits cX1_readDigits 1 (none) rm_X1_readDigits fh_vU [.ref (fh_ad E k1)] σ2 (f_X1_readDigits k1 σ2) := fh_met hok (by decide +kernel) (Nat.le_of_ble_eq_true rfl) (fun M _ C Hr => g_X1_readDigits C Hr k1 σ2)
def f_X1_readLetters_B0 (k1 : Nat) (r4 : fh_S → Option (Unit × fh_S)) : fh_S → Option (Unit × fh_S) := fun σ3 => (fh_gi σ3 1 k1 3).bind fun v5 => if ((120 : Int32)) ≤ v5 then some ((), σ3) else (fh_gr 1 k1 0).bind fun k6 => (fh_gi σ3 1 k1 3).bind fun v7 => fh_cb (f_X3_byteAt k6 v7 σ3) fun r9 σ8 => fh_cb (f_X1_isLetter r9 σ8) fun r11 σ10 => if r11 = 0 then some ((), σ10) else (fh_gi σ10 1 k1 3).bind fun v12 => (fh_pf σ10 1 k1 3 (v12 + ((1 : Int32)))).bind fun σ13 => r4 σ13
def f_X1_readLetters (k1 : Nat) (σ2 : fh_S) : Option (Unit × fh_S) := fh_ob 1 k1 (fh_fx (ρ := fh_S → Option (Unit × fh_S)) (fun _ => none) (f_X1_readLetters_B0 k1) fh_fu σ2)
abbrev rm_X1_readLetters : Room := { frames := 1, cells := 0, slots := 0, locals := 21 }
theorem pd_X1_readLetters : yX1_readLetters.cls ≠ "java/lang/invoke/MethodHandle" ∧ yX1_readLetters.cls ≠ "java/lang/invoke/VarHandle" ∧ (parseMethodDescriptor yX1_readLetters.desc).map (fun d => d.parameters.length) = some 0 := by decide +kernel
theorem dX1_readLetters_0 : decode cX1_readLetters 0 = .ok (.aload_n 0, 1) := by decide +kernel
theorem dX1_readLetters_1 : decode cX1_readLetters 1 = .ok (.getfield 19, 3) := by decide +kernel
theorem dX1_readLetters_4 : decode cX1_readLetters 4 = .ok (.bipush 120, 2) := by decide +kernel
theorem dX1_readLetters_6 : decode cX1_readLetters 6 = .ok (.if_icmp .ge 33, 3) := by decide +kernel
theorem dX1_readLetters_9 : decode cX1_readLetters 9 = .ok (.aload_n 0, 1) := by decide +kernel
theorem dX1_readLetters_10 : decode cX1_readLetters 10 = .ok (.getfield 9, 3) := by decide +kernel
theorem dX1_readLetters_13 : decode cX1_readLetters 13 = .ok (.aload_n 0, 1) := by decide +kernel
theorem dX1_readLetters_14 : decode cX1_readLetters 14 = .ok (.getfield 19, 3) := by decide +kernel
theorem dX1_readLetters_17 : decode cX1_readLetters 17 = .ok (.invokevirtual 101, 3) := by decide +kernel
theorem dX1_readLetters_20 : decode cX1_readLetters 20 = .ok (.invokestatic 139, 3) := by decide +kernel
theorem dX1_readLetters_23 : decode cX1_readLetters 23 = .ok (.ifCond .eq 16, 3) := by decide +kernel
theorem dX1_readLetters_26 : decode cX1_readLetters 26 = .ok (.aload_n 0, 1) := by decide +kernel
theorem dX1_readLetters_27 : decode cX1_readLetters 27 = .ok (.dup, 1) := by decide +kernel
theorem dX1_readLetters_28 : decode cX1_readLetters 28 = .ok (.getfield 19, 3) := by decide +kernel
theorem dX1_readLetters_31 : decode cX1_readLetters 31 = .ok (.iconst 1, 1) := by decide +kernel
theorem dX1_readLetters_32 : decode cX1_readLetters 32 = .ok (.iadd, 1) := by decide +kernel
theorem dX1_readLetters_33 : decode cX1_readLetters 33 = .ok (.putfield 19, 3) := by decide +kernel
theorem dX1_readLetters_36 : decode cX1_readLetters 36 = .ok (.goto (-36), 3) := by decide +kernel
theorem dX1_readLetters_39 : decode cX1_readLetters 39 = .ok (.return_, 1) := by decide +kernel
set_option maxHeartbeats 4000000 in
set_option maxRecDepth 100000 in
theorem g_X1_readLetters {E : fh_E} {M : fh_M} (C : fh_Cx E M cX1_readLetters 1 RX1 (none) rm_X1_readLetters) (Hr : fh_Rt E M) (k1 : Nat) (σ2 : fh_S) : fh_Go E M 1 fh_vU 0 [(0, .ref (fh_ad E k1))] [] σ2 (f_X1_readLetters k1 σ2) := by
  have hok := fh_cok C
  refine go_ob ?_
  refine go_fx (fun (r4 : fh_S → Option (Unit × fh_S)) => ∀  (σ3 : fh_S), fh_Go E M 1 fh_vU 0 [(0, .ref (fh_ad E k1))] [] σ3 (r4 σ3)) ?_ ?_ fh_fu σ2
  · intro σ3
    exact go_none
  · intro r4 hr4 σ3
    refine go_aload_n C 0 rfl rfl dX1_readLetters_0 ?_
    refine go_gi (ci := 1) (j := 3) C fh_in1 rfl (by decide) rfl q_102 dX1_readLetters_1 (fun v5 => ?_)
    refine go_bipush C (120 : Int32) dX1_readLetters_4 rfl ?_
    refine go_icmp_ge (tgt := 39) C dX1_readLetters_6 rfl (fun _ => ?_) (fun _ => ?_)
    · exact go_vret C Hr rfl dX1_readLetters_39
    · refine go_aload_n C 0 rfl rfl dX1_readLetters_9 ?_
      refine go_gr (ci := 1) (j := 0) C fh_in1 rfl (by decide) rfl q_99 dX1_readLetters_10 (fun k6 => ?_)
      refine go_aload_n C 0 rfl rfl dX1_readLetters_13 ?_
      refine go_gi (ci := 1) (j := 3) C fh_in1 rfl (by decide) rfl q_102 dX1_readLetters_14 (fun v7 => ?_)
      refine go_callVI C (st := []) [.int v7] (m_X3_byteAt E _ hok k6 v7 σ3) (fun _ h => fh_ob_ok h) rfl rfl ⟨q_538, q_539, q_540, q_3, q_541⟩ pd_X3_byteAt rfl ⟨⟨Nat.le_of_ble_eq_true rfl, Nat.le_of_ble_eq_true rfl⟩, rfl, rfl⟩ (Nat.le_of_ble_eq_true rfl) dX1_readLetters_17 (fun r9 σ8 => ?_)
      refine go_callSI C (st := []) [.int r9] (m_X1_isLetter E _ hok r9 σ8) rfl ⟨q_542, q_543, q_4, q_544⟩ pd_X1_isLetter rfl ⟨⟨Nat.le_of_ble_eq_true rfl, Nat.le_of_ble_eq_true rfl⟩, rfl, rfl⟩ (Nat.le_of_ble_eq_true rfl) dX1_readLetters_20 (fun r11 σ10 => ?_)
      refine go_if_eq (tgt := 39) C dX1_readLetters_23 rfl (fun _ => ?_) (fun _ => ?_)
      · exact go_vret C Hr rfl dX1_readLetters_39
      · refine go_aload_n C 0 rfl rfl dX1_readLetters_26 ?_
        refine go_dup C rfl dX1_readLetters_27 ?_
        refine go_gi (ci := 1) (j := 3) C fh_in1 rfl (by decide) rfl q_102 dX1_readLetters_28 (fun v12 => ?_)
        refine go_iconst C (1 : Int32) dX1_readLetters_31 rfl ?_
        refine go_iadd C dX1_readLetters_32 ?_
        refine go_pf (ci := 1) (j := 3) C tyX1 tyX1_ok nmX1 fh_in1 rfl (by decide) rfl q_102 rfl rfl dX1_readLetters_33 (fun σ13 => ?_)
        refine go_goto C 0 dX1_readLetters_36 rfl ?_
        exact hr4 σ13
theorem m_X1_readLetters (E : fh_E) (l : Launch) (hok : fh_ok E) (k1 : Nat) (σ2 : fh_S) : fh_Met E l yX1_readLetters cX1_readLetters 1 (none) rm_X1_readLetters fh_vU [.ref (fh_ad E k1)] σ2 (f_X1_readLetters k1 σ2) := fh_met hok (by decide +kernel) (Nat.le_of_ble_eq_true rfl) (fun M _ C Hr => g_X1_readLetters C Hr k1 σ2)
def f_X1_findToken_J46 (k1 : Nat) : fh_S → Option (Unit × fh_S) := fun σ8 => (fh_gi σ8 1 k1 2).bind fun v9 => (fh_pf σ8 1 k1 3 v9).bind fun σ10 => (fh_gr 1 k1 0).bind fun k11 => (fh_gi σ10 1 k1 2).bind fun v12 => fh_cb (f_X3_byteAt k11 v12 σ10) fun r14 σ13 => if 0 ≤ r14 then fh_cb (f_X1_isLetter r14 σ13) fun r16 σ15 => if r16 = 0 then fh_cb (f_X1_isDigit r14 σ15) fun r18 σ17 => if r18 = 0 then (fh_pf σ17 1 k1 1 ((3 : Int32))).bind fun σ19 => (fh_gi σ19 1 k1 3).bind fun v20 => (fh_pf σ19 1 k1 3 (v20 + ((1 : Int32)))).bind fun σ21 => some ((), σ21) else (fh_pf σ17 1 k1 1 ((2 : Int32))).bind fun σ22 => fh_cb (f_X1_readDigits k1 σ22) fun _ σ23 => some ((), σ23) else (fh_pf σ15 1 k1 1 ((1 : Int32))).bind fun σ24 => fh_cb (f_X1_readLetters k1 σ24) fun _ σ25 => some ((), σ25) else (fh_pf σ13 1 k1 1 ((0 : Int32))).bind fun σ26 => some ((), σ26)
def f_X1_findToken_B8 (k1 : Nat) (r6 : fh_S → Option (Unit × fh_S)) : fh_S → Option (Unit × fh_S) := fun σ5 => (fh_gi σ5 1 k1 2).bind fun v7 => fh_jn (f_X1_findToken_J46 k1) (fun j27 => if ((120 : Int32)) ≤ v7 then j27 σ5 else (fh_gr 1 k1 0).bind fun k28 => (fh_gi σ5 1 k1 2).bind fun v29 => fh_cb (f_X3_byteAt k28 v29 σ5) fun r31 σ30 => if r31 = ((32 : Int32)) then (fh_gi σ30 1 k1 2).bind fun v32 => (fh_pf σ30 1 k1 2 (v32 + ((1 : Int32)))).bind fun σ33 => r6 σ33 else j27 σ30)
def f_X1_findToken (k1 : Nat) (σ2 : fh_S) : Option (Unit × fh_S) := fh_ob 1 k1 ((fh_gi σ2 1 k1 3).bind fun v3 => (fh_pf σ2 1 k1 2 v3).bind fun σ4 => fh_fx (ρ := fh_S → Option (Unit × fh_S)) (fun _ => none) (f_X1_findToken_B8 k1) fh_fu σ4)
abbrev rm_X1_findToken : Room := { frames := 2, cells := 0, slots := 0, locals := 41 }
theorem pd_X1_findToken : yX1_findToken.cls ≠ "java/lang/invoke/MethodHandle" ∧ yX1_findToken.cls ≠ "java/lang/invoke/VarHandle" ∧ (parseMethodDescriptor yX1_findToken.desc).map (fun d => d.parameters.length) = some 0 := by decide +kernel
theorem dX1_findToken_0 : decode cX1_findToken 0 = .ok (.aload_n 0, 1) := by decide +kernel
theorem dX1_findToken_1 : decode cX1_findToken 1 = .ok (.aload_n 0, 1) := by decide +kernel
theorem dX1_findToken_2 : decode cX1_findToken 2 = .ok (.getfield 19, 3) := by decide +kernel
theorem dX1_findToken_5 : decode cX1_findToken 5 = .ok (.putfield 95, 3) := by decide +kernel
theorem dX1_findToken_8 : decode cX1_findToken 8 = .ok (.aload_n 0, 1) := by decide +kernel
theorem dX1_findToken_9 : decode cX1_findToken 9 = .ok (.getfield 95, 3) := by decide +kernel
theorem dX1_findToken_12 : decode cX1_findToken 12 = .ok (.bipush 120, 2) := by decide +kernel
theorem dX1_findToken_14 : decode cX1_findToken 14 = .ok (.if_icmp .ge 32, 3) := by decide +kernel
theorem dX1_findToken_17 : decode cX1_findToken 17 = .ok (.aload_n 0, 1) := by decide +kernel
theorem dX1_findToken_18 : decode cX1_findToken 18 = .ok (.getfield 9, 3) := by decide +kernel
theorem dX1_findToken_21 : decode cX1_findToken 21 = .ok (.aload_n 0, 1) := by decide +kernel
theorem dX1_findToken_22 : decode cX1_findToken 22 = .ok (.getfield 95, 3) := by decide +kernel
theorem dX1_findToken_25 : decode cX1_findToken 25 = .ok (.invokevirtual 101, 3) := by decide +kernel
theorem dX1_findToken_28 : decode cX1_findToken 28 = .ok (.bipush 32, 2) := by decide +kernel
theorem dX1_findToken_30 : decode cX1_findToken 30 = .ok (.if_icmp .ne 16, 3) := by decide +kernel
theorem dX1_findToken_33 : decode cX1_findToken 33 = .ok (.aload_n 0, 1) := by decide +kernel
theorem dX1_findToken_34 : decode cX1_findToken 34 = .ok (.dup, 1) := by decide +kernel
theorem dX1_findToken_35 : decode cX1_findToken 35 = .ok (.getfield 95, 3) := by decide +kernel
theorem dX1_findToken_38 : decode cX1_findToken 38 = .ok (.iconst 1, 1) := by decide +kernel
theorem dX1_findToken_39 : decode cX1_findToken 39 = .ok (.iadd, 1) := by decide +kernel
theorem dX1_findToken_40 : decode cX1_findToken 40 = .ok (.putfield 95, 3) := by decide +kernel
theorem dX1_findToken_43 : decode cX1_findToken 43 = .ok (.goto (-35), 3) := by decide +kernel
theorem dX1_findToken_46 : decode cX1_findToken 46 = .ok (.aload_n 0, 1) := by decide +kernel
theorem dX1_findToken_47 : decode cX1_findToken 47 = .ok (.aload_n 0, 1) := by decide +kernel
theorem dX1_findToken_48 : decode cX1_findToken 48 = .ok (.getfield 95, 3) := by decide +kernel
theorem dX1_findToken_51 : decode cX1_findToken 51 = .ok (.putfield 19, 3) := by decide +kernel
theorem dX1_findToken_54 : decode cX1_findToken 54 = .ok (.aload_n 0, 1) := by decide +kernel
theorem dX1_findToken_55 : decode cX1_findToken 55 = .ok (.getfield 9, 3) := by decide +kernel
theorem dX1_findToken_58 : decode cX1_findToken 58 = .ok (.aload_n 0, 1) := by decide +kernel
theorem dX1_findToken_59 : decode cX1_findToken 59 = .ok (.getfield 95, 3) := by decide +kernel
theorem dX1_findToken_62 : decode cX1_findToken 62 = .ok (.invokevirtual 101, 3) := by decide +kernel
theorem dX1_findToken_65 : decode cX1_findToken 65 = .ok (.istore_n 1, 1) := by decide +kernel
theorem dX1_findToken_66 : decode cX1_findToken 66 = .ok (.iload_n 1, 1) := by decide +kernel
theorem dX1_findToken_67 : decode cX1_findToken 67 = .ok (.ifCond .ge 11, 3) := by decide +kernel
theorem dX1_findToken_70 : decode cX1_findToken 70 = .ok (.aload_n 0, 1) := by decide +kernel
theorem dX1_findToken_71 : decode cX1_findToken 71 = .ok (.iconst 0, 1) := by decide +kernel
theorem dX1_findToken_72 : decode cX1_findToken 72 = .ok (.putfield 42, 3) := by decide +kernel
theorem dX1_findToken_75 : decode cX1_findToken 75 = .ok (.goto 56, 3) := by decide +kernel
theorem dX1_findToken_78 : decode cX1_findToken 78 = .ok (.iload_n 1, 1) := by decide +kernel
theorem dX1_findToken_79 : decode cX1_findToken 79 = .ok (.invokestatic 139, 3) := by decide +kernel
theorem dX1_findToken_82 : decode cX1_findToken 82 = .ok (.ifCond .eq 15, 3) := by decide +kernel
theorem dX1_findToken_85 : decode cX1_findToken 85 = .ok (.aload_n 0, 1) := by decide +kernel
theorem dX1_findToken_86 : decode cX1_findToken 86 = .ok (.iconst 1, 1) := by decide +kernel
theorem dX1_findToken_87 : decode cX1_findToken 87 = .ok (.putfield 42, 3) := by decide +kernel
theorem dX1_findToken_90 : decode cX1_findToken 90 = .ok (.aload_n 0, 1) := by decide +kernel
theorem dX1_findToken_91 : decode cX1_findToken 91 = .ok (.invokevirtual 142, 3) := by decide +kernel
theorem dX1_findToken_94 : decode cX1_findToken 94 = .ok (.goto 37, 3) := by decide +kernel
theorem dX1_findToken_97 : decode cX1_findToken 97 = .ok (.iload_n 1, 1) := by decide +kernel
theorem dX1_findToken_98 : decode cX1_findToken 98 = .ok (.invokestatic 145, 3) := by decide +kernel
theorem dX1_findToken_101 : decode cX1_findToken 101 = .ok (.ifCond .eq 15, 3) := by decide +kernel
theorem dX1_findToken_104 : decode cX1_findToken 104 = .ok (.aload_n 0, 1) := by decide +kernel
theorem dX1_findToken_105 : decode cX1_findToken 105 = .ok (.iconst 2, 1) := by decide +kernel
theorem dX1_findToken_106 : decode cX1_findToken 106 = .ok (.putfield 42, 3) := by decide +kernel
theorem dX1_findToken_109 : decode cX1_findToken 109 = .ok (.aload_n 0, 1) := by decide +kernel
theorem dX1_findToken_110 : decode cX1_findToken 110 = .ok (.invokevirtual 148, 3) := by decide +kernel
theorem dX1_findToken_113 : decode cX1_findToken 113 = .ok (.goto 18, 3) := by decide +kernel
theorem dX1_findToken_116 : decode cX1_findToken 116 = .ok (.aload_n 0, 1) := by decide +kernel
theorem dX1_findToken_117 : decode cX1_findToken 117 = .ok (.iconst 3, 1) := by decide +kernel
theorem dX1_findToken_118 : decode cX1_findToken 118 = .ok (.putfield 42, 3) := by decide +kernel
theorem dX1_findToken_121 : decode cX1_findToken 121 = .ok (.aload_n 0, 1) := by decide +kernel
theorem dX1_findToken_122 : decode cX1_findToken 122 = .ok (.dup, 1) := by decide +kernel
theorem dX1_findToken_123 : decode cX1_findToken 123 = .ok (.getfield 19, 3) := by decide +kernel
theorem dX1_findToken_126 : decode cX1_findToken 126 = .ok (.iconst 1, 1) := by decide +kernel
theorem dX1_findToken_127 : decode cX1_findToken 127 = .ok (.iadd, 1) := by decide +kernel
theorem dX1_findToken_128 : decode cX1_findToken 128 = .ok (.putfield 19, 3) := by decide +kernel
theorem dX1_findToken_131 : decode cX1_findToken 131 = .ok (.return_, 1) := by decide +kernel
set_option maxHeartbeats 4000000 in
set_option maxRecDepth 100000 in
theorem g_X1_findToken {E : fh_E} {M : fh_M} (C : fh_Cx E M cX1_findToken 2 RX1 (none) rm_X1_findToken) (Hr : fh_Rt E M) (k1 : Nat) (σ2 : fh_S) : fh_Go E M 2 fh_vU 0 [(0, .ref (fh_ad E k1))] [] σ2 (f_X1_findToken k1 σ2) := by
  have hok := fh_cok C
  refine go_ob ?_
  refine go_aload_n C 0 rfl rfl dX1_findToken_0 ?_
  refine go_aload_n C 0 rfl rfl dX1_findToken_1 ?_
  refine go_gi (ci := 1) (j := 3) C fh_in1 rfl (by decide) rfl q_102 dX1_findToken_2 (fun v3 => ?_)
  refine go_pf (ci := 1) (j := 2) C tyX1 tyX1_ok nmX1 fh_in1 rfl (by decide) rfl q_101 rfl rfl dX1_findToken_5 (fun σ4 => ?_)
  refine go_fx (fun (r6 : fh_S → Option (Unit × fh_S)) => ∀  (σ5 : fh_S), fh_Go E M 2 fh_vU 8 [(0, .ref (fh_ad E k1))] [] σ5 (r6 σ5)) ?_ ?_ fh_fu σ4
  · intro σ5
    exact go_none
  · intro r6 hr6 σ5
    refine go_aload_n C 0 rfl rfl dX1_findToken_8 ?_
    refine go_gi (ci := 1) (j := 2) C fh_in1 rfl (by decide) rfl q_101 dX1_findToken_9 (fun v7 => ?_)
    refine go_bipush C (120 : Int32) dX1_findToken_12 rfl ?_
    refine go_jn (fun (j27 : fh_S → Option (Unit × fh_S)) => ∀ (σ8 : fh_S), fh_Go E M 2 fh_vU 46 [(0, .ref (fh_ad E k1))] [] σ8 (j27 σ8)) ?_ (fun j27 hj27 => ?_)
    · intro σ8
      refine go_aload_n C 0 rfl rfl dX1_findToken_46 ?_
      refine go_aload_n C 0 rfl rfl dX1_findToken_47 ?_
      refine go_gi (ci := 1) (j := 2) C fh_in1 rfl (by decide) rfl q_101 dX1_findToken_48 (fun v9 => ?_)
      refine go_pf (ci := 1) (j := 3) C tyX1 tyX1_ok nmX1 fh_in1 rfl (by decide) rfl q_102 rfl rfl dX1_findToken_51 (fun σ10 => ?_)
      refine go_aload_n C 0 rfl rfl dX1_findToken_54 ?_
      refine go_gr (ci := 1) (j := 0) C fh_in1 rfl (by decide) rfl q_99 dX1_findToken_55 (fun k11 => ?_)
      refine go_aload_n C 0 rfl rfl dX1_findToken_58 ?_
      refine go_gi (ci := 1) (j := 2) C fh_in1 rfl (by decide) rfl q_101 dX1_findToken_59 (fun v12 => ?_)
      refine go_callVI C (st := []) [.int v12] (m_X3_byteAt E _ hok k11 v12 σ10) (fun _ h => fh_ob_ok h) rfl rfl ⟨q_538, q_539, q_540, q_3, q_541⟩ pd_X3_byteAt rfl ⟨⟨Nat.le_of_ble_eq_true rfl, Nat.le_of_ble_eq_true rfl⟩, rfl, rfl⟩ (Nat.le_of_ble_eq_true rfl) dX1_findToken_62 (fun r14 σ13 => ?_)
      refine go_istore_n C [(1, .int r14), (0, .ref (fh_ad E k1))] rfl rfl (by decide) dX1_findToken_65 ?_
      refine go_iload_n C 0 rfl rfl dX1_findToken_66 ?_
      refine go_if_ge (tgt := 78) C dX1_findToken_67 rfl (fun _ => ?_) (fun _ => ?_)
      · refine go_iload_n C 0 rfl rfl dX1_findToken_78 ?_
        refine go_callSI C (st := []) [.int r14] (m_X1_isLetter E _ hok r14 σ13) rfl ⟨q_542, q_543, q_4, q_544⟩ pd_X1_isLetter rfl ⟨⟨Nat.le_of_ble_eq_true rfl, Nat.le_of_ble_eq_true rfl⟩, rfl, rfl⟩ (Nat.le_of_ble_eq_true rfl) dX1_findToken_79 (fun r16 σ15 => ?_)
        refine go_if_eq (tgt := 97) C dX1_findToken_82 rfl (fun _ => ?_) (fun _ => ?_)
        · refine go_iload_n C 0 rfl rfl dX1_findToken_97 ?_
          refine go_callSI C (st := []) [.int r14] (m_X1_isDigit E _ hok r14 σ15) rfl ⟨q_549, q_550, q_4, q_551⟩ pd_X1_isDigit rfl ⟨⟨Nat.le_of_ble_eq_true rfl, Nat.le_of_ble_eq_true rfl⟩, rfl, rfl⟩ (Nat.le_of_ble_eq_true rfl) dX1_findToken_98 (fun r18 σ17 => ?_)
          refine go_if_eq (tgt := 116) C dX1_findToken_101 rfl (fun _ => ?_) (fun _ => ?_)
          · refine go_aload_n C 1 rfl rfl dX1_findToken_116 ?_
            refine go_iconst C (3 : Int32) dX1_findToken_117 rfl ?_
            refine go_pf (ci := 1) (j := 1) C tyX1 tyX1_ok nmX1 fh_in1 rfl (by decide) rfl q_100 rfl rfl dX1_findToken_118 (fun σ19 => ?_)
            refine go_aload_n C 1 rfl rfl dX1_findToken_121 ?_
            refine go_dup C rfl dX1_findToken_122 ?_
            refine go_gi (ci := 1) (j := 3) C fh_in1 rfl (by decide) rfl q_102 dX1_findToken_123 (fun v20 => ?_)
            refine go_iconst C (1 : Int32) dX1_findToken_126 rfl ?_
            refine go_iadd C dX1_findToken_127 ?_
            refine go_pf (ci := 1) (j := 3) C tyX1 tyX1_ok nmX1 fh_in1 rfl (by decide) rfl q_102 rfl rfl dX1_findToken_128 (fun σ21 => ?_)
            exact go_vret C Hr rfl dX1_findToken_131
          · refine go_aload_n C 1 rfl rfl dX1_findToken_104 ?_
            refine go_iconst C (2 : Int32) dX1_findToken_105 rfl ?_
            refine go_pf (ci := 1) (j := 1) C tyX1 tyX1_ok nmX1 fh_in1 rfl (by decide) rfl q_100 rfl rfl dX1_findToken_106 (fun σ22 => ?_)
            refine go_aload_n C 1 rfl rfl dX1_findToken_109 ?_
            refine go_callVU C (st := []) [] (m_X1_readDigits E _ hok k1 σ22) (fun _ h => fh_ob_ok h) rfl rfl ⟨q_552, q_554, qs_10, q_4, q_555⟩ pd_X1_readDigits rfl ⟨⟨Nat.le_of_ble_eq_true rfl, Nat.le_of_ble_eq_true rfl⟩, rfl, rfl⟩ (Nat.le_of_ble_eq_true rfl) dX1_findToken_110 (fun _ σ23 => ?_)
            refine go_goto C 131 dX1_findToken_113 rfl ?_
            exact go_vret C Hr rfl dX1_findToken_131
        · refine go_aload_n C 1 rfl rfl dX1_findToken_85 ?_
          refine go_iconst C (1 : Int32) dX1_findToken_86 rfl ?_
          refine go_pf (ci := 1) (j := 1) C tyX1 tyX1_ok nmX1 fh_in1 rfl (by decide) rfl q_100 rfl rfl dX1_findToken_87 (fun σ24 => ?_)
          refine go_aload_n C 1 rfl rfl dX1_findToken_90 ?_
          refine go_callVU C (st := []) [] (m_X1_readLetters E _ hok k1 σ24) (fun _ h => fh_ob_ok h) rfl rfl ⟨q_545, q_547, qs_9, q_4, q_548⟩ pd_X1_readLetters rfl ⟨⟨Nat.le_of_ble_eq_true rfl, Nat.le_of_ble_eq_true rfl⟩, rfl, rfl⟩ (Nat.le_of_ble_eq_true rfl) dX1_findToken_91 (fun _ σ25 => ?_)
          refine go_goto C 131 dX1_findToken_94 rfl ?_
          exact go_vret C Hr rfl dX1_findToken_131
      · refine go_aload_n C 1 rfl rfl dX1_findToken_70 ?_
        refine go_iconst C (0 : Int32) dX1_findToken_71 rfl ?_
        refine go_pf (ci := 1) (j := 1) C tyX1 tyX1_ok nmX1 fh_in1 rfl (by decide) rfl q_100 rfl rfl dX1_findToken_72 (fun σ26 => ?_)
        refine go_goto C 131 dX1_findToken_75 rfl ?_
        exact go_vret C Hr rfl dX1_findToken_131
    refine go_icmp_ge (tgt := 46) C dX1_findToken_14 rfl (fun _ => ?_) (fun _ => ?_)
    · exact hj27 σ5
    · refine go_aload_n C 0 rfl rfl dX1_findToken_17 ?_
      refine go_gr (ci := 1) (j := 0) C fh_in1 rfl (by decide) rfl q_99 dX1_findToken_18 (fun k28 => ?_)
      refine go_aload_n C 0 rfl rfl dX1_findToken_21 ?_
      refine go_gi (ci := 1) (j := 2) C fh_in1 rfl (by decide) rfl q_101 dX1_findToken_22 (fun v29 => ?_)
      refine go_callVI C (st := []) [.int v29] (m_X3_byteAt E _ hok k28 v29 σ5) (fun _ h => fh_ob_ok h) rfl rfl ⟨q_538, q_539, q_540, q_3, q_541⟩ pd_X3_byteAt rfl ⟨⟨Nat.le_of_ble_eq_true rfl, Nat.le_of_ble_eq_true rfl⟩, rfl, rfl⟩ (Nat.le_of_ble_eq_true rfl) dX1_findToken_25 (fun r31 σ30 => ?_)
      refine go_bipush C (32 : Int32) dX1_findToken_28 rfl ?_
      refine go_icmp_ne (tgt := 46) C dX1_findToken_30 rfl (fun _ => ?_) (fun _ => ?_)
      · exact hj27 σ30
      · refine go_aload_n C 0 rfl rfl dX1_findToken_33 ?_
        refine go_dup C rfl dX1_findToken_34 ?_
        refine go_gi (ci := 1) (j := 2) C fh_in1 rfl (by decide) rfl q_101 dX1_findToken_35 (fun v32 => ?_)
        refine go_iconst C (1 : Int32) dX1_findToken_38 rfl ?_
        refine go_iadd C dX1_findToken_39 ?_
        refine go_pf (ci := 1) (j := 2) C tyX1 tyX1_ok nmX1 fh_in1 rfl (by decide) rfl q_101 rfl rfl dX1_findToken_40 (fun σ33 => ?_)
        refine go_goto C 8 dX1_findToken_43 rfl ?_
        exact hr6 σ33
theorem m_X1_findToken (E : fh_E) (l : Launch) (hok : fh_ok E) (k1 : Nat) (σ2 : fh_S) : fh_Met E l yX1_findToken cX1_findToken 2 (none) rm_X1_findToken fh_vU [.ref (fh_ad E k1)] σ2 (f_X1_findToken k1 σ2) := fh_met hok (by decide +kernel) (Nat.le_of_ble_eq_true rfl) (fun M _ C Hr => g_X1_findToken C Hr k1 σ2)
def f_J0_isLatin1_aae02 (i1 : Nat) (σ2 : fh_S) : Option (Int32 × fh_S) := fh_sg i1 (if ((1 : Int32)) = 0 then fh_rz ((0 : Int32)) σ2 else if ((0 : Int32)) = 0 then fh_rz ((1 : Int32)) σ2 else fh_rz ((0 : Int32)) σ2)
abbrev rm_J0_isLatin1_aae02 : Room := { frames := 0, cells := 0, slots := 0, locals := 0 }
theorem pd_J0_isLatin1_aae02 : yJ0_isLatin1_aae02.cls ≠ "java/lang/invoke/MethodHandle" ∧ yJ0_isLatin1_aae02.cls ≠ "java/lang/invoke/VarHandle" ∧ (parseMethodDescriptor yJ0_isLatin1_aae02.desc).map (fun d => d.parameters.length) = some 0 := by decide +kernel
theorem dJ0_isLatin1_aae02_0 : decode cJ0_isLatin1_aae02 0 = .ok (.getstatic 38, 3) := by decide +kernel
theorem dJ0_isLatin1_aae02_3 : decode cJ0_isLatin1_aae02 3 = .ok (.ifCond .eq 14, 3) := by decide +kernel
theorem dJ0_isLatin1_aae02_6 : decode cJ0_isLatin1_aae02 6 = .ok (.aload_n 0, 1) := by decide +kernel
theorem dJ0_isLatin1_aae02_7 : decode cJ0_isLatin1_aae02 7 = .ok (.getfield 15, 3) := by decide +kernel
theorem dJ0_isLatin1_aae02_10 : decode cJ0_isLatin1_aae02 10 = .ok (.ifCond .ne 7, 3) := by decide +kernel
theorem dJ0_isLatin1_aae02_13 : decode cJ0_isLatin1_aae02 13 = .ok (.iconst 1, 1) := by decide +kernel
theorem dJ0_isLatin1_aae02_14 : decode cJ0_isLatin1_aae02 14 = .ok (.goto 4, 3) := by decide +kernel
theorem dJ0_isLatin1_aae02_17 : decode cJ0_isLatin1_aae02 17 = .ok (.iconst 0, 1) := by decide +kernel
theorem dJ0_isLatin1_aae02_18 : decode cJ0_isLatin1_aae02 18 = .ok (.ireturn, 1) := by decide +kernel
set_option maxHeartbeats 4000000 in
set_option maxRecDepth 100000 in
theorem g_J0_isLatin1_aae02 {E : fh_E} {M : fh_M} (C : fh_Cx E M cJ0_isLatin1_aae02 1 RJ0 ((some FieldType.boolean)) rm_J0_isLatin1_aae02) (Hr : fh_Rt E M) (i1 : Nat) (σ2 : fh_S) : fh_Go E M 1 fh_vI 0 [(0, .ref (fh_aK E i1))] [] σ2 (f_J0_isLatin1_aae02 i1 σ2) := by
  have hok := fh_cok C
  refine go_sg (fun hgi1 => ?_)
  refine go_cs C q_574 dJ0_isLatin1_aae02_0 ?_
  refine go_if_eq (tgt := 17) C dJ0_isLatin1_aae02_3 rfl (fun _ => ?_) (fun _ => ?_)
  · refine go_iconst C (0 : Int32) dJ0_isLatin1_aae02_17 rfl ?_
    exact go_zret C Hr dJ0_isLatin1_aae02_18
  · refine go_aload_n C 0 rfl rfl dJ0_isLatin1_aae02_6 ?_
    refine go_scod C hgi1 q_1245 dJ0_isLatin1_aae02_7 ?_
    refine go_if_ne (tgt := 17) C dJ0_isLatin1_aae02_10 rfl (fun _ => ?_) (fun _ => ?_)
    · refine go_iconst C (0 : Int32) dJ0_isLatin1_aae02_17 rfl ?_
      exact go_zret C Hr dJ0_isLatin1_aae02_18
    · refine go_iconst C (1 : Int32) dJ0_isLatin1_aae02_13 rfl ?_
      refine go_goto C 18 dJ0_isLatin1_aae02_14 rfl ?_
      exact go_zret C Hr dJ0_isLatin1_aae02_18
theorem m_J0_isLatin1_aae02 (E : fh_E) (l : Launch) (hok : fh_ok E) (i1 : Nat) (σ2 : fh_S) : fh_Met E l yJ0_isLatin1_aae02 cJ0_isLatin1_aae02 1 ((some FieldType.boolean)) rm_J0_isLatin1_aae02 fh_vI [.ref (fh_aK E i1)] σ2 (f_J0_isLatin1_aae02 i1 σ2) := fh_met hok (by decide +kernel) (Nat.le_of_ble_eq_true rfl) (fun M _ C Hr => g_J0_isLatin1_aae02 C Hr i1 σ2)
def f_J3_checkIndex_8e157_J9 : fh_S → Option (Int32 × fh_S) := fun σ5 => none
def f_J3_checkIndex_8e157 (a1 : Int32) (a2 : Int32) (u3 : Value) (σ4 : fh_S) : Option (Int32 × fh_S) := fh_jn (f_J3_checkIndex_8e157_J9) (fun j6 => if a1 < 0 then j6 σ4 else if a1 < a2 then some (a1, σ4) else j6 σ4)
abbrev rm_J3_checkIndex_8e157 : Room := { frames := 0, cells := 0, slots := 0, locals := 0 }
theorem pd_J3_checkIndex_8e157 : yJ3_checkIndex_8e157.cls ≠ "java/lang/invoke/MethodHandle" ∧ yJ3_checkIndex_8e157.cls ≠ "java/lang/invoke/VarHandle" ∧ (parseMethodDescriptor yJ3_checkIndex_8e157.desc).map (fun d => d.parameters.length) = some 3 := by decide +kernel
theorem dJ3_checkIndex_8e157_0 : decode cJ3_checkIndex_8e157 0 = .ok (.iload_n 0, 1) := by decide +kernel
theorem dJ3_checkIndex_8e157_1 : decode cJ3_checkIndex_8e157 1 = .ok (.ifCond .lt 8, 3) := by decide +kernel
theorem dJ3_checkIndex_8e157_4 : decode cJ3_checkIndex_8e157 4 = .ok (.iload_n 0, 1) := by decide +kernel
theorem dJ3_checkIndex_8e157_5 : decode cJ3_checkIndex_8e157 5 = .ok (.iload_n 1, 1) := by decide +kernel
theorem dJ3_checkIndex_8e157_6 : decode cJ3_checkIndex_8e157 6 = .ok (.if_icmp .lt 10, 3) := by decide +kernel
theorem dJ3_checkIndex_8e157_9 : decode cJ3_checkIndex_8e157 9 = .ok (.aload_n 2, 1) := by decide +kernel
theorem dJ3_checkIndex_8e157_10 : decode cJ3_checkIndex_8e157 10 = .ok (.iload_n 0, 1) := by decide +kernel
theorem dJ3_checkIndex_8e157_11 : decode cJ3_checkIndex_8e157 11 = .ok (.iload_n 1, 1) := by decide +kernel
theorem dJ3_checkIndex_8e157_12 : decode cJ3_checkIndex_8e157 12 = .ok (.invokestatic 95, 3) := by decide +kernel
theorem dJ3_checkIndex_8e157_15 : decode cJ3_checkIndex_8e157 15 = .ok (.athrow, 1) := by decide +kernel
theorem dJ3_checkIndex_8e157_16 : decode cJ3_checkIndex_8e157 16 = .ok (.iload_n 0, 1) := by decide +kernel
theorem dJ3_checkIndex_8e157_17 : decode cJ3_checkIndex_8e157 17 = .ok (.ireturn, 1) := by decide +kernel
set_option maxHeartbeats 4000000 in
set_option maxRecDepth 100000 in
theorem g_J3_checkIndex_8e157 {E : fh_E} {M : fh_M} (C : fh_Cx E M cJ3_checkIndex_8e157 3 RJ3 ((some FieldType.int)) rm_J3_checkIndex_8e157) (Hr : fh_Rt E M) (a1 : Int32) (a2 : Int32) (u3 : Value) (σ4 : fh_S) : fh_Go E M 3 fh_vI 0 [(0, .int a1), (1, .int a2), (2, u3)] [] σ4 (f_J3_checkIndex_8e157 a1 a2 u3 σ4) := by
  have hok := fh_cok C
  refine go_iload_n C 0 rfl rfl dJ3_checkIndex_8e157_0 ?_
  refine go_jn (fun (j6 : fh_S → Option (Int32 × fh_S)) => ∀ (σ5 : fh_S), fh_Go E M 3 fh_vI 9 [(0, .int a1), (1, .int a2), (2, u3)] [] σ5 (j6 σ5)) ?_ (fun j6 hj6 => ?_)
  · intro σ5
    exact go_none
  refine go_if_lt (tgt := 9) C dJ3_checkIndex_8e157_1 rfl (fun _ => ?_) (fun _ => ?_)
  · exact hj6 σ4
  · refine go_iload_n C 0 rfl rfl dJ3_checkIndex_8e157_4 ?_
    refine go_iload_n C 1 rfl rfl dJ3_checkIndex_8e157_5 ?_
    refine go_icmp_lt (tgt := 16) C dJ3_checkIndex_8e157_6 rfl (fun _ => ?_) (fun _ => ?_)
    · refine go_iload_n C 0 rfl rfl dJ3_checkIndex_8e157_16 ?_
      exact go_iret C Hr rfl dJ3_checkIndex_8e157_17
    · exact hj6 σ4
theorem m_J3_checkIndex_8e157 (E : fh_E) (l : Launch) (hok : fh_ok E) (a1 : Int32) (a2 : Int32) (u3 : Value) (σ4 : fh_S) : fh_Met E l yJ3_checkIndex_8e157 cJ3_checkIndex_8e157 3 ((some FieldType.int)) rm_J3_checkIndex_8e157 fh_vI [.int a1, .int a2, u3] σ4 (f_J3_checkIndex_8e157 a1 a2 u3 σ4) := fh_met hok (by decide +kernel) (Nat.le_of_ble_eq_true rfl) (fun M _ C Hr => g_J3_checkIndex_8e157 C Hr a1 a2 u3 σ4)
def f_J0_checkIndex_df160 (a1 : Int32) (a2 : Int32) (σ3 : fh_S) : Option (Unit × fh_S) := fh_cb (f_J3_checkIndex_8e157 a1 a2 u4 σ3) fun r6 σ5 => some ((), σ5)
abbrev rm_J0_checkIndex_df160 : Room := { frames := 1, cells := 0, slots := 0, locals := 22 }
theorem pd_J0_checkIndex_df160 : yJ0_checkIndex_df160.cls ≠ "java/lang/invoke/MethodHandle" ∧ yJ0_checkIndex_df160.cls ≠ "java/lang/invoke/VarHandle" ∧ (parseMethodDescriptor yJ0_checkIndex_df160.desc).map (fun d => d.parameters.length) = some 2 := by decide +kernel
theorem dJ0_checkIndex_df160_0 : decode cJ0_checkIndex_df160 0 = .ok (.iload_n 0, 1) := by decide +kernel
theorem dJ0_checkIndex_df160_1 : decode cJ0_checkIndex_df160 1 = .ok (.iload_n 1, 1) := by decide +kernel
theorem dJ0_checkIndex_df160_2 : decode cJ0_checkIndex_df160 2 = .ok (.getstatic 1053, 3) := by decide +kernel
theorem dJ0_checkIndex_df160_5 : decode cJ0_checkIndex_df160 5 = .ok (.invokestatic 1059, 3) := by decide +kernel
theorem dJ0_checkIndex_df160_8 : decode cJ0_checkIndex_df160 8 = .ok (.pop, 1) := by decide +kernel
theorem dJ0_checkIndex_df160_9 : decode cJ0_checkIndex_df160 9 = .ok (.return_, 1) := by decide +kernel
set_option maxHeartbeats 4000000 in
set_option maxRecDepth 100000 in
theorem g_J0_checkIndex_df160 {E : fh_E} {M : fh_M} (C : fh_Cx E M cJ0_checkIndex_df160 2 RJ0 (none) rm_J0_checkIndex_df160) (Hr : fh_Rt E M) (a1 : Int32) (a2 : Int32) (σ3 : fh_S) : fh_Go E M 2 fh_vU 0 [(0, .int a1), (1, .int a2)] [] σ3 (f_J0_checkIndex_df160 a1 a2 σ3) := by
  have hok := fh_cok C
  refine go_iload_n C 0 rfl rfl dJ0_checkIndex_df160_0 ?_
  refine go_iload_n C 1 rfl rfl dJ0_checkIndex_df160_1 ?_
  refine go_sio C q_590 dJ0_checkIndex_df160_2 (fun u4 hu => ?_)
  refine go_callSI C (st := []) [.int a1, .int a2, u4] (m_J3_checkIndex_8e157 E _ hok a1 a2 u4 σ3) rfl ⟨q_592, q_593, q_12, q_594⟩ pd_J3_checkIndex_8e157 rfl ⟨⟨Nat.le_of_ble_eq_true rfl, Nat.le_of_ble_eq_true rfl⟩, rfl, rfl⟩ (Nat.le_of_ble_eq_true rfl) dJ0_checkIndex_df160_5 (fun r6 σ5 => ?_)
  refine go_pop C rfl dJ0_checkIndex_df160_8 ?_
  exact go_vret C Hr rfl dJ0_checkIndex_df160_9
theorem m_J0_checkIndex_df160 (E : fh_E) (l : Launch) (hok : fh_ok E) (a1 : Int32) (a2 : Int32) (σ3 : fh_S) : fh_Met E l yJ0_checkIndex_df160 cJ0_checkIndex_df160 2 (none) rm_J0_checkIndex_df160 fh_vU [.int a1, .int a2] σ3 (f_J0_checkIndex_df160 a1 a2 σ3) := fh_met hok (by decide +kernel) (Nat.le_of_ble_eq_true rfl) (fun M _ C Hr => g_J0_checkIndex_df160 C Hr a1 a2 σ3)
def f_J1_charAt_3b067 (i1 : Nat) (a2 : Int32) (σ3 : fh_S) : Option (Int32 × fh_S) := fh_sg i1 (fh_cb (f_J0_checkIndex_df160 a2 (Int32.ofNat (fh_sl i1)) σ3) fun _ σ4 => (fh_sb i1 a2).bind fun v5 => fh_rc (((v5 &&& ((255 : Int32))).toUInt32 % 65536).toInt32) σ4)
abbrev rm_J1_charAt_3b067 : Room := { frames := 2, cells := 0, slots := 0, locals := 43 }
theorem pd_J1_charAt_3b067 : yJ1_charAt_3b067.cls ≠ "java/lang/invoke/MethodHandle" ∧ yJ1_charAt_3b067.cls ≠ "java/lang/invoke/VarHandle" ∧ (parseMethodDescriptor yJ1_charAt_3b067.desc).map (fun d => d.parameters.length) = some 2 := by decide +kernel
theorem dJ1_charAt_3b067_0 : decode cJ1_charAt_3b067 0 = .ok (.iload_n 1, 1) := by decide +kernel
theorem dJ1_charAt_3b067_1 : decode cJ1_charAt_3b067 1 = .ok (.aload_n 0, 1) := by decide +kernel
theorem dJ1_charAt_3b067_2 : decode cJ1_charAt_3b067 2 = .ok (.arraylength, 1) := by decide +kernel
theorem dJ1_charAt_3b067_3 : decode cJ1_charAt_3b067 3 = .ok (.invokestatic 9, 3) := by decide +kernel
theorem dJ1_charAt_3b067_6 : decode cJ1_charAt_3b067 6 = .ok (.aload_n 0, 1) := by decide +kernel
theorem dJ1_charAt_3b067_7 : decode cJ1_charAt_3b067 7 = .ok (.iload_n 1, 1) := by decide +kernel
theorem dJ1_charAt_3b067_8 : decode cJ1_charAt_3b067 8 = .ok (.baload, 1) := by decide +kernel
theorem dJ1_charAt_3b067_9 : decode cJ1_charAt_3b067 9 = .ok (.sipush 255, 3) := by decide +kernel
theorem dJ1_charAt_3b067_12 : decode cJ1_charAt_3b067 12 = .ok (.iand, 1) := by decide +kernel
theorem dJ1_charAt_3b067_13 : decode cJ1_charAt_3b067 13 = .ok (.i2c, 1) := by decide +kernel
theorem dJ1_charAt_3b067_14 : decode cJ1_charAt_3b067 14 = .ok (.ireturn, 1) := by decide +kernel
set_option maxHeartbeats 4000000 in
set_option maxRecDepth 100000 in
theorem g_J1_charAt_3b067 {E : fh_E} {M : fh_M} (C : fh_Cx E M cJ1_charAt_3b067 2 RJ1 ((some FieldType.char)) rm_J1_charAt_3b067) (Hr : fh_Rt E M) (i1 : Nat) (a2 : Int32) (σ3 : fh_S) : fh_Go E M 2 fh_vI 0 [(0, .ref (fh_aV E i1)), (1, .int a2)] [] σ3 (f_J1_charAt_3b067 i1 a2 σ3) := by
  have hok := fh_cok C
  refine go_sg (fun hgi1 => ?_)
  refine go_iload_n C 1 rfl rfl dJ1_charAt_3b067_0 ?_
  refine go_aload_n C 0 rfl rfl dJ1_charAt_3b067_1 ?_
  refine go_slen C hgi1 dJ1_charAt_3b067_2 ?_
  refine go_callSU C (st := []) [.int a2, .int (Int32.ofNat (fh_sl i1))] (m_J0_checkIndex_df160 E _ hok a2 (Int32.ofNat (fh_sl i1)) σ3) rfl ⟨q_587, q_588, q_10, q_589⟩ pd_J0_checkIndex_df160 rfl ⟨⟨Nat.le_of_ble_eq_true rfl, Nat.le_of_ble_eq_true rfl⟩, rfl, rfl⟩ (Nat.le_of_ble_eq_true rfl) dJ1_charAt_3b067_3 (fun _ σ4 => ?_)
  refine go_aload_n C 0 rfl rfl dJ1_charAt_3b067_6 ?_
  refine go_iload_n C 1 rfl rfl dJ1_charAt_3b067_7 ?_
  refine go_sbl C dJ1_charAt_3b067_8 (fun v5 => ?_)
  refine go_sipush C (255 : Int32) dJ1_charAt_3b067_9 rfl ?_
  refine go_iand C dJ1_charAt_3b067_12 ?_
  refine go_i2c C dJ1_charAt_3b067_13 ?_
  exact go_cret C Hr dJ1_charAt_3b067_14
theorem m_J1_charAt_3b067 (E : fh_E) (l : Launch) (hok : fh_ok E) (i1 : Nat) (a2 : Int32) (σ3 : fh_S) : fh_Met E l yJ1_charAt_3b067 cJ1_charAt_3b067 2 ((some FieldType.char)) rm_J1_charAt_3b067 fh_vI [.ref (fh_aV E i1), .int a2] σ3 (f_J1_charAt_3b067 i1 a2 σ3) := fh_met hok (by decide +kernel) (Nat.le_of_ble_eq_true rfl) (fun M _ C Hr => g_J1_charAt_3b067 C Hr i1 a2 σ3)
def f_J0_charAt_5068e (i1 : Nat) (a2 : Int32) (σ3 : fh_S) : Option (Int32 × fh_S) := fh_sg i1 (fh_cb (f_J0_isLatin1_aae02 i1 σ3) fun r5 σ4 => if r5 = 0 then none else fh_cb (f_J1_charAt_3b067 i1 a2 σ4) fun r7 σ6 => fh_rc r7 σ6)
abbrev rm_J0_charAt_5068e : Room := { frames := 3, cells := 0, slots := 0, locals := 64 }
theorem pd_J0_charAt_5068e : yJ0_charAt_5068e.cls ≠ "java/lang/invoke/MethodHandle" ∧ yJ0_charAt_5068e.cls ≠ "java/lang/invoke/VarHandle" ∧ (parseMethodDescriptor yJ0_charAt_5068e.desc).map (fun d => d.parameters.length) = some 1 := by decide +kernel
theorem dJ0_charAt_5068e_0 : decode cJ0_charAt_5068e 0 = .ok (.aload_n 0, 1) := by decide +kernel
theorem dJ0_charAt_5068e_1 : decode cJ0_charAt_5068e 1 = .ok (.invokevirtual 492, 3) := by decide +kernel
theorem dJ0_charAt_5068e_4 : decode cJ0_charAt_5068e 4 = .ok (.ifCond .eq 12, 3) := by decide +kernel
theorem dJ0_charAt_5068e_7 : decode cJ0_charAt_5068e 7 = .ok (.aload_n 0, 1) := by decide +kernel
theorem dJ0_charAt_5068e_8 : decode cJ0_charAt_5068e 8 = .ok (.getfield 9, 3) := by decide +kernel
theorem dJ0_charAt_5068e_11 : decode cJ0_charAt_5068e 11 = .ok (.iload_n 1, 1) := by decide +kernel
theorem dJ0_charAt_5068e_12 : decode cJ0_charAt_5068e 12 = .ok (.invokestatic 495, 3) := by decide +kernel
theorem dJ0_charAt_5068e_15 : decode cJ0_charAt_5068e 15 = .ok (.ireturn, 1) := by decide +kernel
theorem dJ0_charAt_5068e_16 : decode cJ0_charAt_5068e 16 = .ok (.aload_n 0, 1) := by decide +kernel
theorem dJ0_charAt_5068e_17 : decode cJ0_charAt_5068e 17 = .ok (.getfield 9, 3) := by decide +kernel
theorem dJ0_charAt_5068e_20 : decode cJ0_charAt_5068e 20 = .ok (.iload_n 1, 1) := by decide +kernel
theorem dJ0_charAt_5068e_21 : decode cJ0_charAt_5068e 21 = .ok (.invokestatic 498, 3) := by decide +kernel
theorem dJ0_charAt_5068e_24 : decode cJ0_charAt_5068e 24 = .ok (.ireturn, 1) := by decide +kernel
set_option maxHeartbeats 4000000 in
set_option maxRecDepth 100000 in
theorem g_J0_charAt_5068e {E : fh_E} {M : fh_M} (C : fh_Cx E M cJ0_charAt_5068e 2 RJ0 ((some FieldType.char)) rm_J0_charAt_5068e) (Hr : fh_Rt E M) (i1 : Nat) (a2 : Int32) (σ3 : fh_S) : fh_Go E M 2 fh_vI 0 [(0, .ref (fh_aK E i1)), (1, .int a2)] [] σ3 (f_J0_charAt_5068e i1 a2 σ3) := by
  have hok := fh_cok C
  refine go_sg (fun hgi1 => ?_)
  refine go_aload_n C 0 rfl rfl dJ0_charAt_5068e_0 ?_
  refine go_callXI C (st := []) [] (m_J0_isLatin1_aae02 E _ hok i1 σ3) (fun _ h => fh_sg_ok h) rfl rfl ⟨q_580, q_581, q_582, q_10, q_583⟩ pd_J0_isLatin1_aae02 rfl ⟨⟨Nat.le_of_ble_eq_true rfl, Nat.le_of_ble_eq_true rfl⟩, rfl, rfl⟩ (Nat.le_of_ble_eq_true rfl) dJ0_charAt_5068e_1 (fun r5 σ4 => ?_)
  refine go_if_eq (tgt := 16) C dJ0_charAt_5068e_4 rfl (fun _ => ?_) (fun _ => ?_)
  · refine go_aload_n C 0 rfl rfl dJ0_charAt_5068e_16 ?_
    refine go_sval C hgi1 q_1244 dJ0_charAt_5068e_17 ?_
    refine go_iload_n C 1 rfl rfl dJ0_charAt_5068e_20 ?_
    exact go_none
  · refine go_aload_n C 0 rfl rfl dJ0_charAt_5068e_7 ?_
    refine go_sval C hgi1 q_1244 dJ0_charAt_5068e_8 ?_
    refine go_iload_n C 1 rfl rfl dJ0_charAt_5068e_11 ?_
    refine go_callSI C (st := []) [.ref (fh_aV E i1), .int a2] (m_J1_charAt_3b067 E _ hok i1 a2 σ4) rfl ⟨q_584, q_585, q_11, q_586⟩ pd_J1_charAt_3b067 rfl ⟨⟨Nat.le_of_ble_eq_true rfl, Nat.le_of_ble_eq_true rfl⟩, rfl, rfl⟩ (Nat.le_of_ble_eq_true rfl) dJ0_charAt_5068e_12 (fun r7 σ6 => ?_)
    exact go_cret C Hr dJ0_charAt_5068e_15
theorem m_J0_charAt_5068e (E : fh_E) (l : Launch) (hok : fh_ok E) (i1 : Nat) (a2 : Int32) (σ3 : fh_S) : fh_Met E l yJ0_charAt_5068e cJ0_charAt_5068e 2 ((some FieldType.char)) rm_J0_charAt_5068e fh_vI [.ref (fh_aK E i1), .int a2] σ3 (f_J0_charAt_5068e i1 a2 σ3) := fh_met hok (by decide +kernel) (Nat.le_of_ble_eq_true rfl) (fun M _ C Hr => g_J0_charAt_5068e C Hr i1 a2 σ3)
def f_J0_coder_7d493 (i1 : Nat) (σ2 : fh_S) : Option (Int32 × fh_S) := fh_sg i1 (if ((1 : Int32)) = 0 then fh_ry ((1 : Int32)) σ2 else fh_ry ((0 : Int32)) σ2)
abbrev rm_J0_coder_7d493 : Room := { frames := 0, cells := 0, slots := 0, locals := 0 }
theorem pd_J0_coder_7d493 : yJ0_coder_7d493.cls ≠ "java/lang/invoke/MethodHandle" ∧ yJ0_coder_7d493.cls ≠ "java/lang/invoke/VarHandle" ∧ (parseMethodDescriptor yJ0_coder_7d493.desc).map (fun d => d.parameters.length) = some 0 := by decide +kernel
theorem dJ0_coder_7d493_0 : decode cJ0_coder_7d493 0 = .ok (.getstatic 38, 3) := by decide +kernel
theorem dJ0_coder_7d493_3 : decode cJ0_coder_7d493 3 = .ok (.ifCond .eq 10, 3) := by decide +kernel
theorem dJ0_coder_7d493_6 : decode cJ0_coder_7d493 6 = .ok (.aload_n 0, 1) := by decide +kernel
theorem dJ0_coder_7d493_7 : decode cJ0_coder_7d493 7 = .ok (.getfield 15, 3) := by decide +kernel
theorem dJ0_coder_7d493_10 : decode cJ0_coder_7d493 10 = .ok (.goto 4, 3) := by decide +kernel
theorem dJ0_coder_7d493_13 : decode cJ0_coder_7d493 13 = .ok (.iconst 1, 1) := by decide +kernel
theorem dJ0_coder_7d493_14 : decode cJ0_coder_7d493 14 = .ok (.ireturn, 1) := by decide +kernel
set_option maxHeartbeats 4000000 in
set_option maxRecDepth 100000 in
theorem g_J0_coder_7d493 {E : fh_E} {M : fh_M} (C : fh_Cx E M cJ0_coder_7d493 1 RJ0 ((some FieldType.byte)) rm_J0_coder_7d493) (Hr : fh_Rt E M) (i1 : Nat) (σ2 : fh_S) : fh_Go E M 1 fh_vI 0 [(0, .ref (fh_aK E i1))] [] σ2 (f_J0_coder_7d493 i1 σ2) := by
  have hok := fh_cok C
  refine go_sg (fun hgi1 => ?_)
  refine go_cs C q_574 dJ0_coder_7d493_0 ?_
  refine go_if_eq (tgt := 13) C dJ0_coder_7d493_3 rfl (fun _ => ?_) (fun _ => ?_)
  · refine go_iconst C (1 : Int32) dJ0_coder_7d493_13 rfl ?_
    exact go_yret C Hr dJ0_coder_7d493_14
  · refine go_aload_n C 0 rfl rfl dJ0_coder_7d493_6 ?_
    refine go_scod C hgi1 q_1245 dJ0_coder_7d493_7 ?_
    refine go_goto C 14 dJ0_coder_7d493_10 rfl ?_
    exact go_yret C Hr dJ0_coder_7d493_14
theorem m_J0_coder_7d493 (E : fh_E) (l : Launch) (hok : fh_ok E) (i1 : Nat) (σ2 : fh_S) : fh_Met E l yJ0_coder_7d493 cJ0_coder_7d493 1 ((some FieldType.byte)) rm_J0_coder_7d493 fh_vI [.ref (fh_aK E i1)] σ2 (f_J0_coder_7d493 i1 σ2) := fh_met hok (by decide +kernel) (Nat.le_of_ble_eq_true rfl) (fun M _ C Hr => g_J0_coder_7d493 C Hr i1 σ2)
def f_J0_length_8abf5 (i1 : Nat) (σ2 : fh_S) : Option (Int32 × fh_S) := fh_sg i1 (fh_cb (f_J0_coder_7d493 i1 σ2) fun r4 σ3 => some ((Int32.ofNat (fh_sl i1)) >>> (r4 &&& 31), σ3))
abbrev rm_J0_length_8abf5 : Room := { frames := 1, cells := 0, slots := 0, locals := 20 }
theorem pd_J0_length_8abf5 : yJ0_length_8abf5.cls ≠ "java/lang/invoke/MethodHandle" ∧ yJ0_length_8abf5.cls ≠ "java/lang/invoke/VarHandle" ∧ (parseMethodDescriptor yJ0_length_8abf5.desc).map (fun d => d.parameters.length) = some 0 := by decide +kernel
theorem dJ0_length_8abf5_0 : decode cJ0_length_8abf5 0 = .ok (.aload_n 0, 1) := by decide +kernel
theorem dJ0_length_8abf5_1 : decode cJ0_length_8abf5 1 = .ok (.getfield 9, 3) := by decide +kernel
theorem dJ0_length_8abf5_4 : decode cJ0_length_8abf5 4 = .ok (.arraylength, 1) := by decide +kernel
theorem dJ0_length_8abf5_5 : decode cJ0_length_8abf5 5 = .ok (.aload_n 0, 1) := by decide +kernel
theorem dJ0_length_8abf5_6 : decode cJ0_length_8abf5 6 = .ok (.invokevirtual 335, 3) := by decide +kernel
theorem dJ0_length_8abf5_9 : decode cJ0_length_8abf5 9 = .ok (.ishr, 1) := by decide +kernel
theorem dJ0_length_8abf5_10 : decode cJ0_length_8abf5 10 = .ok (.ireturn, 1) := by decide +kernel
set_option maxHeartbeats 4000000 in
set_option maxRecDepth 100000 in
theorem g_J0_length_8abf5 {E : fh_E} {M : fh_M} (C : fh_Cx E M cJ0_length_8abf5 1 RJ0 ((some FieldType.int)) rm_J0_length_8abf5) (Hr : fh_Rt E M) (i1 : Nat) (σ2 : fh_S) : fh_Go E M 1 fh_vI 0 [(0, .ref (fh_aK E i1))] [] σ2 (f_J0_length_8abf5 i1 σ2) := by
  have hok := fh_cok C
  refine go_sg (fun hgi1 => ?_)
  refine go_aload_n C 0 rfl rfl dJ0_length_8abf5_0 ?_
  refine go_sval C hgi1 q_1244 dJ0_length_8abf5_1 ?_
  refine go_slen C hgi1 dJ0_length_8abf5_4 ?_
  refine go_aload_n C 0 rfl rfl dJ0_length_8abf5_5 ?_
  refine go_callXI C (st := [.int (Int32.ofNat (fh_sl i1))]) [] (m_J0_coder_7d493 E _ hok i1 σ2) (fun _ h => fh_sg_ok h) rfl rfl ⟨q_570, q_571, q_572, q_10, q_573⟩ pd_J0_coder_7d493 rfl ⟨⟨Nat.le_of_ble_eq_true rfl, Nat.le_of_ble_eq_true rfl⟩, rfl, rfl⟩ (Nat.le_of_ble_eq_true rfl) dJ0_length_8abf5_6 (fun r4 σ3 => ?_)
  refine go_ishr C dJ0_length_8abf5_9 ?_
  exact go_iret C Hr rfl dJ0_length_8abf5_10
theorem m_J0_length_8abf5 (E : fh_E) (l : Launch) (hok : fh_ok E) (i1 : Nat) (σ2 : fh_S) : fh_Met E l yJ0_length_8abf5 cJ0_length_8abf5 1 ((some FieldType.int)) rm_J0_length_8abf5 fh_vI [.ref (fh_aK E i1)] σ2 (f_J0_length_8abf5 i1 σ2) := fh_met hok (by decide +kernel) (Nat.le_of_ble_eq_true rfl) (fun M _ C Hr => g_J0_length_8abf5 C Hr i1 σ2)
def f_X1_isWord_B28 (i2 : Nat) (k1 : Nat) (r11 : Int32 → fh_S → Option (Int32 × fh_S)) : Int32 → fh_S → Option (Int32 × fh_S) := fun x9 σ10 => fh_cb (f_J0_length_8abf5 i2 σ10) fun r13 σ12 => if r13 ≤ x9 then fh_rz ((1 : Int32)) σ12 else (fh_gr 1 k1 0).bind fun k14 => (fh_gi σ12 1 k1 2).bind fun v15 => fh_cb (f_X3_byteAt k14 (v15 + x9) σ12) fun r17 σ16 => fh_cb (f_J0_charAt_5068e i2 x9 σ16) fun r19 σ18 => if r17 = r19 then r11 (x9 + 1) σ18 else fh_rz ((0 : Int32)) σ18
def f_X1_isWord (k1 : Nat) (i2 : Nat) (σ3 : fh_S) : Option (Int32 × fh_S) := fh_ob 1 k1 ((fh_gi σ3 1 k1 1).bind fun v4 => if v4 = ((1 : Int32)) then (fh_gi σ3 1 k1 3).bind fun v5 => (fh_gi σ3 1 k1 2).bind fun v6 => fh_cb (f_J0_length_8abf5 i2 σ3) fun r8 σ7 => if (v5 - v6) = r8 then fh_fx (ρ := Int32 → fh_S → Option (Int32 × fh_S)) (fun _ _ => none) (f_X1_isWord_B28 i2 k1) fh_fu ((0 : Int32)) σ7 else fh_rz ((0 : Int32)) σ7 else fh_rz ((0 : Int32)) σ3)
abbrev rm_X1_isWord : Room := { frames := 4, cells := 0, slots := 0, locals := 85 }
theorem pd_X1_isWord : yX1_isWord.cls ≠ "java/lang/invoke/MethodHandle" ∧ yX1_isWord.cls ≠ "java/lang/invoke/VarHandle" ∧ (parseMethodDescriptor yX1_isWord.desc).map (fun d => d.parameters.length) = some 1 := by decide +kernel
theorem dX1_isWord_0 : decode cX1_isWord 0 = .ok (.aload_n 0, 1) := by decide +kernel
theorem dX1_isWord_1 : decode cX1_isWord 1 = .ok (.getfield 42, 3) := by decide +kernel
theorem dX1_isWord_4 : decode cX1_isWord 4 = .ok (.iconst 1, 1) := by decide +kernel
theorem dX1_isWord_5 : decode cX1_isWord 5 = .ok (.if_icmp .ne 19, 3) := by decide +kernel
theorem dX1_isWord_8 : decode cX1_isWord 8 = .ok (.aload_n 0, 1) := by decide +kernel
theorem dX1_isWord_9 : decode cX1_isWord 9 = .ok (.getfield 19, 3) := by decide +kernel
theorem dX1_isWord_12 : decode cX1_isWord 12 = .ok (.aload_n 0, 1) := by decide +kernel
theorem dX1_isWord_13 : decode cX1_isWord 13 = .ok (.getfield 95, 3) := by decide +kernel
theorem dX1_isWord_16 : decode cX1_isWord 16 = .ok (.isub, 1) := by decide +kernel
theorem dX1_isWord_17 : decode cX1_isWord 17 = .ok (.aload_n 1, 1) := by decide +kernel
theorem dX1_isWord_18 : decode cX1_isWord 18 = .ok (.invokevirtual 109, 3) := by decide +kernel
theorem dX1_isWord_21 : decode cX1_isWord 21 = .ok (.if_icmp .eq 5, 3) := by decide +kernel
theorem dX1_isWord_24 : decode cX1_isWord 24 = .ok (.iconst 0, 1) := by decide +kernel
theorem dX1_isWord_25 : decode cX1_isWord 25 = .ok (.ireturn, 1) := by decide +kernel
theorem dX1_isWord_26 : decode cX1_isWord 26 = .ok (.iconst 0, 1) := by decide +kernel
theorem dX1_isWord_27 : decode cX1_isWord 27 = .ok (.istore_n 2, 1) := by decide +kernel
theorem dX1_isWord_28 : decode cX1_isWord 28 = .ok (.iload_n 2, 1) := by decide +kernel
theorem dX1_isWord_29 : decode cX1_isWord 29 = .ok (.aload_n 1, 1) := by decide +kernel
theorem dX1_isWord_30 : decode cX1_isWord 30 = .ok (.invokevirtual 109, 3) := by decide +kernel
theorem dX1_isWord_33 : decode cX1_isWord 33 = .ok (.if_icmp .ge 32, 3) := by decide +kernel
theorem dX1_isWord_36 : decode cX1_isWord 36 = .ok (.aload_n 0, 1) := by decide +kernel
theorem dX1_isWord_37 : decode cX1_isWord 37 = .ok (.getfield 9, 3) := by decide +kernel
theorem dX1_isWord_40 : decode cX1_isWord 40 = .ok (.aload_n 0, 1) := by decide +kernel
theorem dX1_isWord_41 : decode cX1_isWord 41 = .ok (.getfield 95, 3) := by decide +kernel
theorem dX1_isWord_44 : decode cX1_isWord 44 = .ok (.iload_n 2, 1) := by decide +kernel
theorem dX1_isWord_45 : decode cX1_isWord 45 = .ok (.iadd, 1) := by decide +kernel
theorem dX1_isWord_46 : decode cX1_isWord 46 = .ok (.invokevirtual 101, 3) := by decide +kernel
theorem dX1_isWord_49 : decode cX1_isWord 49 = .ok (.aload_n 1, 1) := by decide +kernel
theorem dX1_isWord_50 : decode cX1_isWord 50 = .ok (.iload_n 2, 1) := by decide +kernel
theorem dX1_isWord_51 : decode cX1_isWord 51 = .ok (.invokevirtual 114, 3) := by decide +kernel
theorem dX1_isWord_54 : decode cX1_isWord 54 = .ok (.if_icmp .eq 5, 3) := by decide +kernel
theorem dX1_isWord_57 : decode cX1_isWord 57 = .ok (.iconst 0, 1) := by decide +kernel
theorem dX1_isWord_58 : decode cX1_isWord 58 = .ok (.ireturn, 1) := by decide +kernel
theorem dX1_isWord_59 : decode cX1_isWord 59 = .ok (.iinc 2 1, 3) := by decide +kernel
theorem dX1_isWord_62 : decode cX1_isWord 62 = .ok (.goto (-34), 3) := by decide +kernel
theorem dX1_isWord_65 : decode cX1_isWord 65 = .ok (.iconst 1, 1) := by decide +kernel
theorem dX1_isWord_66 : decode cX1_isWord 66 = .ok (.ireturn, 1) := by decide +kernel
set_option maxHeartbeats 4000000 in
set_option maxRecDepth 100000 in
theorem g_X1_isWord {E : fh_E} {M : fh_M} (C : fh_Cx E M cX1_isWord 3 RX1 ((some FieldType.boolean)) rm_X1_isWord) (Hr : fh_Rt E M) (k1 : Nat) (i2 : Nat) (σ3 : fh_S) : fh_Go E M 3 fh_vI 0 [(0, .ref (fh_ad E k1)), (1, .ref (fh_aK E i2))] [] σ3 (f_X1_isWord k1 i2 σ3) := by
  have hok := fh_cok C
  refine go_ob ?_
  refine go_aload_n C 0 rfl rfl dX1_isWord_0 ?_
  refine go_gi (ci := 1) (j := 1) C fh_in1 rfl (by decide) rfl q_100 dX1_isWord_1 (fun v4 => ?_)
  refine go_iconst C (1 : Int32) dX1_isWord_4 rfl ?_
  refine go_icmp_ne (tgt := 24) C dX1_isWord_5 rfl (fun _ => ?_) (fun _ => ?_)
  · refine go_iconst C (0 : Int32) dX1_isWord_24 rfl ?_
    exact go_zret C Hr dX1_isWord_25
  · refine go_aload_n C 0 rfl rfl dX1_isWord_8 ?_
    refine go_gi (ci := 1) (j := 3) C fh_in1 rfl (by decide) rfl q_102 dX1_isWord_9 (fun v5 => ?_)
    refine go_aload_n C 0 rfl rfl dX1_isWord_12 ?_
    refine go_gi (ci := 1) (j := 2) C fh_in1 rfl (by decide) rfl q_101 dX1_isWord_13 (fun v6 => ?_)
    refine go_isub C dX1_isWord_16 ?_
    refine go_aload_n C 1 rfl rfl dX1_isWord_17 ?_
    refine go_callXI C (st := [.int (v5 - v6)]) [] (m_J0_length_8abf5 E _ hok i2 σ3) (fun _ h => fh_sg_ok h) rfl rfl ⟨q_566, q_567, q_568, q_10, q_569⟩ pd_J0_length_8abf5 rfl ⟨⟨Nat.le_of_ble_eq_true rfl, Nat.le_of_ble_eq_true rfl⟩, rfl, rfl⟩ (Nat.le_of_ble_eq_true rfl) dX1_isWord_18 (fun r8 σ7 => ?_)
    refine go_icmp_eq (tgt := 26) C dX1_isWord_21 rfl (fun _ => ?_) (fun _ => ?_)
    · refine go_iconst C (0 : Int32) dX1_isWord_26 rfl ?_
      refine go_istore_n C [(2, .int ((0 : Int32))), (0, .ref (fh_ad E k1)), (1, .ref (fh_aK E i2))] rfl rfl (by decide) dX1_isWord_27 ?_
      refine go_lv [1, 2, 0] (lv' := [(0, .ref (fh_ad E k1)), (1, .ref (fh_aK E i2)), (2, .int ((0 : Int32)))]) rfl ?_
      refine go_fx (fun (r11 : Int32 → fh_S → Option (Int32 × fh_S)) => ∀ (x9 : Int32) (σ10 : fh_S), fh_Go E M 3 fh_vI 28 [(0, .ref (fh_ad E k1)), (1, .ref (fh_aK E i2)), (2, .int x9)] [] σ10 (r11 x9 σ10)) ?_ ?_ fh_fu ((0 : Int32)) σ7
      · intro x9 σ10
        exact go_none
      · intro r11 hr11 x9 σ10
        refine go_iload_n C 2 rfl rfl dX1_isWord_28 ?_
        refine go_aload_n C 1 rfl rfl dX1_isWord_29 ?_
        refine go_callXI C (st := [.int x9]) [] (m_J0_length_8abf5 E _ hok i2 σ10) (fun _ h => fh_sg_ok h) rfl rfl ⟨q_566, q_567, q_568, q_10, q_569⟩ pd_J0_length_8abf5 rfl ⟨⟨Nat.le_of_ble_eq_true rfl, Nat.le_of_ble_eq_true rfl⟩, rfl, rfl⟩ (Nat.le_of_ble_eq_true rfl) dX1_isWord_30 (fun r13 σ12 => ?_)
        refine go_icmp_ge (tgt := 65) C dX1_isWord_33 rfl (fun _ => ?_) (fun _ => ?_)
        · refine go_iconst C (1 : Int32) dX1_isWord_65 rfl ?_
          exact go_zret C Hr dX1_isWord_66
        · refine go_aload_n C 0 rfl rfl dX1_isWord_36 ?_
          refine go_gr (ci := 1) (j := 0) C fh_in1 rfl (by decide) rfl q_99 dX1_isWord_37 (fun k14 => ?_)
          refine go_aload_n C 0 rfl rfl dX1_isWord_40 ?_
          refine go_gi (ci := 1) (j := 2) C fh_in1 rfl (by decide) rfl q_101 dX1_isWord_41 (fun v15 => ?_)
          refine go_iload_n C 2 rfl rfl dX1_isWord_44 ?_
          refine go_iadd C dX1_isWord_45 ?_
          refine go_callVI C (st := []) [.int (v15 + x9)] (m_X3_byteAt E _ hok k14 (v15 + x9) σ12) (fun _ h => fh_ob_ok h) rfl rfl ⟨q_538, q_539, q_540, q_3, q_541⟩ pd_X3_byteAt rfl ⟨⟨Nat.le_of_ble_eq_true rfl, Nat.le_of_ble_eq_true rfl⟩, rfl, rfl⟩ (Nat.le_of_ble_eq_true rfl) dX1_isWord_46 (fun r17 σ16 => ?_)
          refine go_aload_n C 1 rfl rfl dX1_isWord_49 ?_
          refine go_iload_n C 2 rfl rfl dX1_isWord_50 ?_
          refine go_callXI C (st := [.int r17]) [.int x9] (m_J0_charAt_5068e E _ hok i2 x9 σ16) (fun _ h => fh_sg_ok h) rfl rfl ⟨q_576, q_577, q_578, q_10, q_579⟩ pd_J0_charAt_5068e rfl ⟨⟨Nat.le_of_ble_eq_true rfl, Nat.le_of_ble_eq_true rfl⟩, rfl, rfl⟩ (Nat.le_of_ble_eq_true rfl) dX1_isWord_51 (fun r19 σ18 => ?_)
          refine go_icmp_eq (tgt := 59) C dX1_isWord_54 rfl (fun _ => ?_) (fun _ => ?_)
          · refine go_iinc C (x9 + 1) 2 [(2, .int (x9 + 1)), (0, .ref (fh_ad E k1)), (1, .ref (fh_aK E i2))] rfl rfl rfl (by decide) dX1_isWord_59 ?_
            refine go_goto C 28 dX1_isWord_62 rfl ?_
            refine go_lv [1, 2, 0] (lv' := [(0, .ref (fh_ad E k1)), (1, .ref (fh_aK E i2)), (2, .int (x9 + 1))]) rfl ?_
            exact hr11 (x9 + 1) σ18
          · refine go_iconst C (0 : Int32) dX1_isWord_57 rfl ?_
            exact go_zret C Hr dX1_isWord_58
    · refine go_iconst C (0 : Int32) dX1_isWord_24 rfl ?_
      exact go_zret C Hr dX1_isWord_25
theorem m_X1_isWord (E : fh_E) (l : Launch) (hok : fh_ok E) (k1 : Nat) (i2 : Nat) (σ3 : fh_S) : fh_Met E l yX1_isWord cX1_isWord 3 ((some FieldType.boolean)) rm_X1_isWord fh_vI [.ref (fh_ad E k1), .ref (fh_aK E i2)] σ3 (f_X1_isWord k1 i2 σ3) := fh_met hok (by decide +kernel) (Nat.le_of_ble_eq_true rfl) (fun M _ C Hr => g_X1_isWord C Hr k1 i2 σ3)
def f_X1_wordOfKind (a1 : Int32) (σ2 : fh_S) : Option (Nat × fh_S) := if a1 = (1 : Int32) then some (1, σ2) else if a1 = (2 : Int32) then some (2, σ2) else if a1 = (3 : Int32) then some (3, σ2) else if a1 = (4 : Int32) then some (4, σ2) else if a1 = (5 : Int32) then some (5, σ2) else if a1 = (6 : Int32) then some (6, σ2) else some (0, σ2)
abbrev rm_X1_wordOfKind : Room := { frames := 0, cells := 0, slots := 0, locals := 0 }
theorem pd_X1_wordOfKind : yX1_wordOfKind.cls ≠ "java/lang/invoke/MethodHandle" ∧ yX1_wordOfKind.cls ≠ "java/lang/invoke/VarHandle" ∧ (parseMethodDescriptor yX1_wordOfKind.desc).map (fun d => d.parameters.length) = some 1 := by decide +kernel
theorem dX1_wordOfKind_0 : decode cX1_wordOfKind 0 = .ok (.iload_n 0, 1) := by decide +kernel
theorem dX1_wordOfKind_1 : decode cX1_wordOfKind 1 = .ok (.tableswitch 57 1 6 #[39, 42, 45, 48, 51, 54], 39) := by decide +kernel
theorem dX1_wordOfKind_40 : decode cX1_wordOfKind 40 = .ok (.ldc 125, 2) := by decide +kernel
theorem dX1_wordOfKind_42 : decode cX1_wordOfKind 42 = .ok (.areturn, 1) := by decide +kernel
theorem dX1_wordOfKind_43 : decode cX1_wordOfKind 43 = .ok (.ldc 127, 2) := by decide +kernel
theorem dX1_wordOfKind_45 : decode cX1_wordOfKind 45 = .ok (.areturn, 1) := by decide +kernel
theorem dX1_wordOfKind_46 : decode cX1_wordOfKind 46 = .ok (.ldc 129, 2) := by decide +kernel
theorem dX1_wordOfKind_48 : decode cX1_wordOfKind 48 = .ok (.areturn, 1) := by decide +kernel
theorem dX1_wordOfKind_49 : decode cX1_wordOfKind 49 = .ok (.ldc 131, 2) := by decide +kernel
theorem dX1_wordOfKind_51 : decode cX1_wordOfKind 51 = .ok (.areturn, 1) := by decide +kernel
theorem dX1_wordOfKind_52 : decode cX1_wordOfKind 52 = .ok (.ldc 133, 2) := by decide +kernel
theorem dX1_wordOfKind_54 : decode cX1_wordOfKind 54 = .ok (.areturn, 1) := by decide +kernel
theorem dX1_wordOfKind_55 : decode cX1_wordOfKind 55 = .ok (.ldc 135, 2) := by decide +kernel
theorem dX1_wordOfKind_57 : decode cX1_wordOfKind 57 = .ok (.areturn, 1) := by decide +kernel
theorem dX1_wordOfKind_58 : decode cX1_wordOfKind 58 = .ok (.ldc 137, 2) := by decide +kernel
theorem dX1_wordOfKind_60 : decode cX1_wordOfKind 60 = .ok (.areturn, 1) := by decide +kernel
set_option maxHeartbeats 4000000 in
set_option maxRecDepth 100000 in
theorem g_X1_wordOfKind {E : fh_E} {M : fh_M} (C : fh_Cx E M cX1_wordOfKind 1 RX1 ((some (FieldType.object "java/lang/String"))) rm_X1_wordOfKind) (Hr : fh_Rt E M) (a1 : Int32) (σ2 : fh_S) : fh_Go E M 1 (fh_vS E) 0 [(0, .int a1)] [] σ2 (f_X1_wordOfKind a1 σ2) := by
  have hok := fh_cok C
  refine go_iload_n C 0 rfl rfl dX1_wordOfKind_0 ?_
  refine go_sw C (1 : Int32) 40 dX1_wordOfKind_1 (by decide) (by decide) rfl rfl ?_ (fun hn3 => ?_)
  · refine go_ldcS C 1 rfl dX1_wordOfKind_40 ?_
    exact go_aretS C Hr rfl dX1_wordOfKind_42
  refine go_sw C (2 : Int32) 43 dX1_wordOfKind_1 (by decide) (by decide) rfl rfl ?_ (fun hn4 => ?_)
  · refine go_ldcS C 2 rfl dX1_wordOfKind_43 ?_
    exact go_aretS C Hr rfl dX1_wordOfKind_45
  refine go_sw C (3 : Int32) 46 dX1_wordOfKind_1 (by decide) (by decide) rfl rfl ?_ (fun hn5 => ?_)
  · refine go_ldcS C 3 rfl dX1_wordOfKind_46 ?_
    exact go_aretS C Hr rfl dX1_wordOfKind_48
  refine go_sw C (4 : Int32) 49 dX1_wordOfKind_1 (by decide) (by decide) rfl rfl ?_ (fun hn6 => ?_)
  · refine go_ldcS C 4 rfl dX1_wordOfKind_49 ?_
    exact go_aretS C Hr rfl dX1_wordOfKind_51
  refine go_sw C (5 : Int32) 52 dX1_wordOfKind_1 (by decide) (by decide) rfl rfl ?_ (fun hn7 => ?_)
  · refine go_ldcS C 5 rfl dX1_wordOfKind_52 ?_
    exact go_aretS C Hr rfl dX1_wordOfKind_54
  refine go_sw C (6 : Int32) 55 dX1_wordOfKind_1 (by decide) (by decide) rfl rfl ?_ (fun hn8 => ?_)
  · refine go_ldcS C 6 rfl dX1_wordOfKind_55 ?_
    exact go_aretS C Hr rfl dX1_wordOfKind_57
  refine go_swd C 58 dX1_wordOfKind_1 (by have hh0 := fh_ne (z := 1) hn3 (by decide); have hh1 := fh_ne (z := 2) hn4 (by decide); have hh2 := fh_ne (z := 3) hn5 (by decide); have hh3 := fh_ne (z := 4) hn6 (by decide); have hh4 := fh_ne (z := 5) hn7 (by decide); have hh5 := fh_ne (z := 6) hn8 (by decide); omega) rfl ?_
  refine go_ldcS C 0 rfl dX1_wordOfKind_58 ?_
  exact go_aretS C Hr rfl dX1_wordOfKind_60
theorem m_X1_wordOfKind (E : fh_E) (l : Launch) (hok : fh_ok E) (a1 : Int32) (σ2 : fh_S) : fh_Met E l yX1_wordOfKind cX1_wordOfKind 1 ((some (FieldType.object "java/lang/String"))) rm_X1_wordOfKind (fh_vS E) [.int a1] σ2 (f_X1_wordOfKind a1 σ2) := fh_met hok (by decide +kernel) (Nat.le_of_ble_eq_true rfl) (fun M _ C Hr => g_X1_wordOfKind C Hr a1 σ2)
def f_X1_kindOfWord_B2 (k1 : Nat) (r5 : Int32 → fh_S → Option (Int32 × fh_S)) : Int32 → fh_S → Option (Int32 × fh_S) := fun x3 σ4 => if ((7 : Int32)) ≤ x3 then some ((-1 : Int32), σ4) else fh_cb (f_X1_wordOfKind x3 σ4) fun r7 σ6 => fh_cb (f_X1_isWord k1 r7 σ6) fun r9 σ8 => if r9 = 0 then r5 (x3 + 1) σ8 else some (x3, σ8)
def f_X1_kindOfWord (k1 : Nat) (σ2 : fh_S) : Option (Int32 × fh_S) := fh_ob 1 k1 (fh_fx (ρ := Int32 → fh_S → Option (Int32 × fh_S)) (fun _ _ => none) (f_X1_kindOfWord_B2 k1) fh_fu ((0 : Int32)) σ2)
abbrev rm_X1_kindOfWord : Room := { frames := 5, cells := 0, slots := 0, locals := 107 }
theorem pd_X1_kindOfWord : yX1_kindOfWord.cls ≠ "java/lang/invoke/MethodHandle" ∧ yX1_kindOfWord.cls ≠ "java/lang/invoke/VarHandle" ∧ (parseMethodDescriptor yX1_kindOfWord.desc).map (fun d => d.parameters.length) = some 0 := by decide +kernel
theorem dX1_kindOfWord_0 : decode cX1_kindOfWord 0 = .ok (.iconst 0, 1) := by decide +kernel
theorem dX1_kindOfWord_1 : decode cX1_kindOfWord 1 = .ok (.istore_n 1, 1) := by decide +kernel
theorem dX1_kindOfWord_2 : decode cX1_kindOfWord 2 = .ok (.iload_n 1, 1) := by decide +kernel
theorem dX1_kindOfWord_3 : decode cX1_kindOfWord 3 = .ok (.getstatic 118, 3) := by decide +kernel
theorem dX1_kindOfWord_6 : decode cX1_kindOfWord 6 = .ok (.arraylength, 1) := by decide +kernel
theorem dX1_kindOfWord_7 : decode cX1_kindOfWord 7 = .ok (.if_icmp .ge 22, 3) := by decide +kernel
theorem dX1_kindOfWord_10 : decode cX1_kindOfWord 10 = .ok (.aload_n 0, 1) := by decide +kernel
theorem dX1_kindOfWord_11 : decode cX1_kindOfWord 11 = .ok (.iload_n 1, 1) := by decide +kernel
theorem dX1_kindOfWord_12 : decode cX1_kindOfWord 12 = .ok (.invokestatic 121, 3) := by decide +kernel
theorem dX1_kindOfWord_15 : decode cX1_kindOfWord 15 = .ok (.invokevirtual 98, 3) := by decide +kernel
theorem dX1_kindOfWord_18 : decode cX1_kindOfWord 18 = .ok (.ifCond .eq 5, 3) := by decide +kernel
theorem dX1_kindOfWord_21 : decode cX1_kindOfWord 21 = .ok (.iload_n 1, 1) := by decide +kernel
theorem dX1_kindOfWord_22 : decode cX1_kindOfWord 22 = .ok (.ireturn, 1) := by decide +kernel
theorem dX1_kindOfWord_23 : decode cX1_kindOfWord 23 = .ok (.iinc 1 1, 3) := by decide +kernel
theorem dX1_kindOfWord_26 : decode cX1_kindOfWord 26 = .ok (.goto (-24), 3) := by decide +kernel
theorem dX1_kindOfWord_29 : decode cX1_kindOfWord 29 = .ok (.iconst (-1), 1) := by decide +kernel
theorem dX1_kindOfWord_30 : decode cX1_kindOfWord 30 = .ok (.ireturn, 1) := by decide +kernel
set_option maxHeartbeats 4000000 in
set_option maxRecDepth 100000 in
theorem g_X1_kindOfWord {E : fh_E} {M : fh_M} (C : fh_Cx E M cX1_kindOfWord 2 RX1 ((some FieldType.int)) rm_X1_kindOfWord) (Hr : fh_Rt E M) (k1 : Nat) (σ2 : fh_S) : fh_Go E M 2 fh_vI 0 [(0, .ref (fh_ad E k1))] [] σ2 (f_X1_kindOfWord k1 σ2) := by
  have hok := fh_cok C
  refine go_ob ?_
  refine go_iconst C (0 : Int32) dX1_kindOfWord_0 rfl ?_
  refine go_istore_n C [(1, .int ((0 : Int32))), (0, .ref (fh_ad E k1))] rfl rfl (by decide) dX1_kindOfWord_1 ?_
  refine go_lv [1, 0] (lv' := [(0, .ref (fh_ad E k1)), (1, .int ((0 : Int32)))]) rfl ?_
  refine go_fx (fun (r5 : Int32 → fh_S → Option (Int32 × fh_S)) => ∀ (x3 : Int32) (σ4 : fh_S), fh_Go E M 2 fh_vI 2 [(0, .ref (fh_ad E k1)), (1, .int x3)] [] σ4 (r5 x3 σ4)) ?_ ?_ fh_fu ((0 : Int32)) σ2
  · intro x3 σ4
    exact go_none
  · intro r5 hr5 x3 σ4
    refine go_iload_n C 1 rfl rfl dX1_kindOfWord_2 ?_
    refine go_tuN C (List.mem_of_getElem? (i := 8) rfl) dX1_kindOfWord_3 ?_
    refine go_tl C dX1_kindOfWord_6 ?_
    refine go_icmp_ge (tgt := 29) C dX1_kindOfWord_7 rfl (fun _ => ?_) (fun _ => ?_)
    · refine go_iconst C (-1 : Int32) dX1_kindOfWord_29 rfl ?_
      exact go_iret C Hr rfl dX1_kindOfWord_30
    · refine go_aload_n C 0 rfl rfl dX1_kindOfWord_10 ?_
      refine go_iload_n C 1 rfl rfl dX1_kindOfWord_11 ?_
      refine go_callSG C (st := [.ref (fh_ad E k1)]) [.int x3] (m_X1_wordOfKind E _ hok x3 σ4) rfl ⟨q_635, q_636, q_4, q_637⟩ pd_X1_wordOfKind rfl ⟨⟨Nat.le_of_ble_eq_true rfl, Nat.le_of_ble_eq_true rfl⟩, rfl, rfl⟩ (Nat.le_of_ble_eq_true rfl) dX1_kindOfWord_12 (fun r7 σ6 => ?_)
      refine go_callVI C (st := []) [.ref (fh_aK E r7)] (m_X1_isWord E _ hok k1 r7 σ6) (fun _ h => fh_ob_ok h) rfl rfl ⟨q_562, q_564, qs_12, q_4, q_565⟩ pd_X1_isWord rfl ⟨⟨Nat.le_of_ble_eq_true rfl, Nat.le_of_ble_eq_true rfl⟩, rfl, rfl⟩ (Nat.le_of_ble_eq_true rfl) dX1_kindOfWord_15 (fun r9 σ8 => ?_)
      refine go_if_eq (tgt := 23) C dX1_kindOfWord_18 rfl (fun _ => ?_) (fun _ => ?_)
      · refine go_iinc C (x3 + 1) 1 [(1, .int (x3 + 1)), (0, .ref (fh_ad E k1))] rfl rfl rfl (by decide) dX1_kindOfWord_23 ?_
        refine go_goto C 2 dX1_kindOfWord_26 rfl ?_
        refine go_lv [1, 0] (lv' := [(0, .ref (fh_ad E k1)), (1, .int (x3 + 1))]) rfl ?_
        exact hr5 (x3 + 1) σ8
      · refine go_iload_n C 1 rfl rfl dX1_kindOfWord_21 ?_
        exact go_iret C Hr rfl dX1_kindOfWord_22
theorem m_X1_kindOfWord (E : fh_E) (l : Launch) (hok : fh_ok E) (k1 : Nat) (σ2 : fh_S) : fh_Met E l yX1_kindOfWord cX1_kindOfWord 2 ((some FieldType.int)) rm_X1_kindOfWord fh_vI [.ref (fh_ad E k1)] σ2 (f_X1_kindOfWord k1 σ2) := fh_met hok (by decide +kernel) (Nat.le_of_ble_eq_true rfl) (fun M _ C Hr => g_X1_kindOfWord C Hr k1 σ2)
def f_X1_refuse (k1 : Nat) (σ2 : fh_S) : Option (Unit × fh_S) := fh_ob 1 k1 ((fh_gi σ2 1 k1 5).bind fun v3 => if v3 = ((-1 : Int32)) then (fh_gi σ2 1 k1 2).bind fun v4 => (fh_pf σ2 1 k1 5 v4).bind fun σ5 => some ((), σ5) else some ((), σ2))
abbrev rm_X1_refuse : Room := { frames := 0, cells := 0, slots := 0, locals := 0 }
theorem pd_X1_refuse : yX1_refuse.cls ≠ "java/lang/invoke/MethodHandle" ∧ yX1_refuse.cls ≠ "java/lang/invoke/VarHandle" ∧ (parseMethodDescriptor yX1_refuse.desc).map (fun d => d.parameters.length) = some 0 := by decide +kernel
theorem dX1_refuse_0 : decode cX1_refuse 0 = .ok (.aload_n 0, 1) := by decide +kernel
theorem dX1_refuse_1 : decode cX1_refuse 1 = .ok (.getfield 15, 3) := by decide +kernel
theorem dX1_refuse_4 : decode cX1_refuse 4 = .ok (.iconst (-1), 1) := by decide +kernel
theorem dX1_refuse_5 : decode cX1_refuse 5 = .ok (.if_icmp .ne 11, 3) := by decide +kernel
theorem dX1_refuse_8 : decode cX1_refuse 8 = .ok (.aload_n 0, 1) := by decide +kernel
theorem dX1_refuse_9 : decode cX1_refuse 9 = .ok (.aload_n 0, 1) := by decide +kernel
theorem dX1_refuse_10 : decode cX1_refuse 10 = .ok (.getfield 95, 3) := by decide +kernel
theorem dX1_refuse_13 : decode cX1_refuse 13 = .ok (.putfield 15, 3) := by decide +kernel
theorem dX1_refuse_16 : decode cX1_refuse 16 = .ok (.return_, 1) := by decide +kernel
set_option maxHeartbeats 4000000 in
set_option maxRecDepth 100000 in
theorem g_X1_refuse {E : fh_E} {M : fh_M} (C : fh_Cx E M cX1_refuse 1 RX1 (none) rm_X1_refuse) (Hr : fh_Rt E M) (k1 : Nat) (σ2 : fh_S) : fh_Go E M 1 fh_vU 0 [(0, .ref (fh_ad E k1))] [] σ2 (f_X1_refuse k1 σ2) := by
  have hok := fh_cok C
  refine go_ob ?_
  refine go_aload_n C 0 rfl rfl dX1_refuse_0 ?_
  refine go_gi (ci := 1) (j := 5) C fh_in1 rfl (by decide) rfl q_104 dX1_refuse_1 (fun v3 => ?_)
  refine go_iconst C (-1 : Int32) dX1_refuse_4 rfl ?_
  refine go_icmp_ne (tgt := 16) C dX1_refuse_5 rfl (fun _ => ?_) (fun _ => ?_)
  · exact go_vret C Hr rfl dX1_refuse_16
  · refine go_aload_n C 0 rfl rfl dX1_refuse_8 ?_
    refine go_aload_n C 0 rfl rfl dX1_refuse_9 ?_
    refine go_gi (ci := 1) (j := 2) C fh_in1 rfl (by decide) rfl q_101 dX1_refuse_10 (fun v4 => ?_)
    refine go_pf (ci := 1) (j := 5) C tyX1 tyX1_ok nmX1 fh_in1 rfl (by decide) rfl q_104 rfl rfl dX1_refuse_13 (fun σ5 => ?_)
    exact go_vret C Hr rfl dX1_refuse_16
theorem m_X1_refuse (E : fh_E) (l : Launch) (hok : fh_ok E) (k1 : Nat) (σ2 : fh_S) : fh_Met E l yX1_refuse cX1_refuse 1 (none) rm_X1_refuse fh_vU [.ref (fh_ad E k1)] σ2 (f_X1_refuse k1 σ2) := fh_met hok (by decide +kernel) (Nat.le_of_ble_eq_true rfl) (fun M _ C Hr => g_X1_refuse C Hr k1 σ2)
def f_X1_takeNumber_J24 (k1 : Nat) : fh_S → Option (Int32 × fh_S) := fun σ5 => fh_cb (f_X1_refuse k1 σ5) fun _ σ6 => some ((0 : Int32), σ6)
def f_X1_takeNumber (k1 : Nat) (a2 : Int32) (σ3 : fh_S) : Option (Int32 × fh_S) := fh_ob 1 k1 ((fh_gi σ3 1 k1 5).bind fun v4 => fh_jn (f_X1_takeNumber_J24 k1) (fun j7 => if v4 = ((-1 : Int32)) then (fh_gi σ3 1 k1 1).bind fun v8 => if v8 = ((2 : Int32)) then (fh_gi σ3 1 k1 4).bind fun v9 => if v9 ≤ a2 then (fh_gi σ3 1 k1 4).bind fun v10 => fh_cb (f_X1_findToken k1 σ3) fun _ σ11 => some (v10, σ11) else j7 σ3 else j7 σ3 else j7 σ3))
abbrev rm_X1_takeNumber : Room := { frames := 3, cells := 0, slots := 0, locals := 62 }
theorem pd_X1_takeNumber : yX1_takeNumber.cls ≠ "java/lang/invoke/MethodHandle" ∧ yX1_takeNumber.cls ≠ "java/lang/invoke/VarHandle" ∧ (parseMethodDescriptor yX1_takeNumber.desc).map (fun d => d.parameters.length) = some 1 := by decide +kernel
theorem dX1_takeNumber_0 : decode cX1_takeNumber 0 = .ok (.aload_n 0, 1) := by decide +kernel
theorem dX1_takeNumber_1 : decode cX1_takeNumber 1 = .ok (.getfield 15, 3) := by decide +kernel
theorem dX1_takeNumber_4 : decode cX1_takeNumber 4 = .ok (.iconst (-1), 1) := by decide +kernel
theorem dX1_takeNumber_5 : decode cX1_takeNumber 5 = .ok (.if_icmp .ne 19, 3) := by decide +kernel
theorem dX1_takeNumber_8 : decode cX1_takeNumber 8 = .ok (.aload_n 0, 1) := by decide +kernel
theorem dX1_takeNumber_9 : decode cX1_takeNumber 9 = .ok (.getfield 42, 3) := by decide +kernel
theorem dX1_takeNumber_12 : decode cX1_takeNumber 12 = .ok (.iconst 2, 1) := by decide +kernel
theorem dX1_takeNumber_13 : decode cX1_takeNumber 13 = .ok (.if_icmp .ne 11, 3) := by decide +kernel
theorem dX1_takeNumber_16 : decode cX1_takeNumber 16 = .ok (.aload_n 0, 1) := by decide +kernel
theorem dX1_takeNumber_17 : decode cX1_takeNumber 17 = .ok (.getfield 106, 3) := by decide +kernel
theorem dX1_takeNumber_20 : decode cX1_takeNumber 20 = .ok (.iload_n 1, 1) := by decide +kernel
theorem dX1_takeNumber_21 : decode cX1_takeNumber 21 = .ok (.if_icmp .le 9, 3) := by decide +kernel
theorem dX1_takeNumber_24 : decode cX1_takeNumber 24 = .ok (.aload_n 0, 1) := by decide +kernel
theorem dX1_takeNumber_25 : decode cX1_takeNumber 25 = .ok (.invokevirtual 45, 3) := by decide +kernel
theorem dX1_takeNumber_28 : decode cX1_takeNumber 28 = .ok (.iconst 0, 1) := by decide +kernel
theorem dX1_takeNumber_29 : decode cX1_takeNumber 29 = .ok (.ireturn, 1) := by decide +kernel
theorem dX1_takeNumber_30 : decode cX1_takeNumber 30 = .ok (.aload_n 0, 1) := by decide +kernel
theorem dX1_takeNumber_31 : decode cX1_takeNumber 31 = .ok (.getfield 106, 3) := by decide +kernel
theorem dX1_takeNumber_34 : decode cX1_takeNumber 34 = .ok (.istore_n 2, 1) := by decide +kernel
theorem dX1_takeNumber_35 : decode cX1_takeNumber 35 = .ok (.aload_n 0, 1) := by decide +kernel
theorem dX1_takeNumber_36 : decode cX1_takeNumber 36 = .ok (.invokevirtual 22, 3) := by decide +kernel
theorem dX1_takeNumber_39 : decode cX1_takeNumber 39 = .ok (.iload_n 2, 1) := by decide +kernel
theorem dX1_takeNumber_40 : decode cX1_takeNumber 40 = .ok (.ireturn, 1) := by decide +kernel
set_option maxHeartbeats 4000000 in
set_option maxRecDepth 100000 in
theorem g_X1_takeNumber {E : fh_E} {M : fh_M} (C : fh_Cx E M cX1_takeNumber 3 RX1 ((some FieldType.int)) rm_X1_takeNumber) (Hr : fh_Rt E M) (k1 : Nat) (a2 : Int32) (σ3 : fh_S) : fh_Go E M 3 fh_vI 0 [(0, .ref (fh_ad E k1)), (1, .int a2)] [] σ3 (f_X1_takeNumber k1 a2 σ3) := by
  have hok := fh_cok C
  refine go_ob ?_
  refine go_aload_n C 0 rfl rfl dX1_takeNumber_0 ?_
  refine go_gi (ci := 1) (j := 5) C fh_in1 rfl (by decide) rfl q_104 dX1_takeNumber_1 (fun v4 => ?_)
  refine go_iconst C (-1 : Int32) dX1_takeNumber_4 rfl ?_
  refine go_jn (fun (j7 : fh_S → Option (Int32 × fh_S)) => ∀ (σ5 : fh_S), fh_Go E M 3 fh_vI 24 [(0, .ref (fh_ad E k1))] [] σ5 (j7 σ5)) ?_ (fun j7 hj7 => ?_)
  · intro σ5
    refine go_aload_n C 0 rfl rfl dX1_takeNumber_24 ?_
    refine go_callVU C (st := []) [] (m_X1_refuse E _ hok k1 σ5) (fun _ h => fh_ob_ok h) rfl rfl ⟨q_622, q_624, qs_15, q_4, q_625⟩ pd_X1_refuse rfl ⟨⟨Nat.le_of_ble_eq_true rfl, Nat.le_of_ble_eq_true rfl⟩, rfl, rfl⟩ (Nat.le_of_ble_eq_true rfl) dX1_takeNumber_25 (fun _ σ6 => ?_)
    refine go_iconst C (0 : Int32) dX1_takeNumber_28 rfl ?_
    exact go_iret C Hr rfl dX1_takeNumber_29
  refine go_icmp_ne (tgt := 24) C dX1_takeNumber_5 rfl (fun _ => ?_) (fun _ => ?_)
  · refine go_lv [0] (lv' := [(0, .ref (fh_ad E k1))]) rfl ?_
    exact hj7 σ3
  · refine go_aload_n C 0 rfl rfl dX1_takeNumber_8 ?_
    refine go_gi (ci := 1) (j := 1) C fh_in1 rfl (by decide) rfl q_100 dX1_takeNumber_9 (fun v8 => ?_)
    refine go_iconst C (2 : Int32) dX1_takeNumber_12 rfl ?_
    refine go_icmp_ne (tgt := 24) C dX1_takeNumber_13 rfl (fun _ => ?_) (fun _ => ?_)
    · refine go_lv [0] (lv' := [(0, .ref (fh_ad E k1))]) rfl ?_
      exact hj7 σ3
    · refine go_aload_n C 0 rfl rfl dX1_takeNumber_16 ?_
      refine go_gi (ci := 1) (j := 4) C fh_in1 rfl (by decide) rfl q_103 dX1_takeNumber_17 (fun v9 => ?_)
      refine go_iload_n C 1 rfl rfl dX1_takeNumber_20 ?_
      refine go_icmp_le (tgt := 30) C dX1_takeNumber_21 rfl (fun _ => ?_) (fun _ => ?_)
      · refine go_aload_n C 0 rfl rfl dX1_takeNumber_30 ?_
        refine go_gi (ci := 1) (j := 4) C fh_in1 rfl (by decide) rfl q_103 dX1_takeNumber_31 (fun v10 => ?_)
        refine go_istore_n C [(2, .int v10), (0, .ref (fh_ad E k1)), (1, .int a2)] rfl rfl (by decide) dX1_takeNumber_34 ?_
        refine go_aload_n C 1 rfl rfl dX1_takeNumber_35 ?_
        refine go_callVU C (st := []) [] (m_X1_findToken E _ hok k1 σ3) (fun _ h => fh_ob_ok h) rfl rfl ⟨q_534, q_536, qs_8, q_4, q_537⟩ pd_X1_findToken rfl ⟨⟨Nat.le_of_ble_eq_true rfl, Nat.le_of_ble_eq_true rfl⟩, rfl, rfl⟩ (Nat.le_of_ble_eq_true rfl) dX1_takeNumber_36 (fun _ σ11 => ?_)
        refine go_iload_n C 0 rfl rfl dX1_takeNumber_39 ?_
        exact go_iret C Hr rfl dX1_takeNumber_40
      · refine go_lv [0] (lv' := [(0, .ref (fh_ad E k1))]) rfl ?_
        exact hj7 σ3
theorem m_X1_takeNumber (E : fh_E) (l : Launch) (hok : fh_ok E) (k1 : Nat) (a2 : Int32) (σ3 : fh_S) : fh_Met E l yX1_takeNumber cX1_takeNumber 3 ((some FieldType.int)) rm_X1_takeNumber fh_vI [.ref (fh_ad E k1), .int a2] σ3 (f_X1_takeNumber k1 a2 σ3) := fh_met hok (by decide +kernel) (Nat.le_of_ble_eq_true rfl) (fun M _ C Hr => g_X1_takeNumber C Hr k1 a2 σ3)
def f_X1_takeSign (k1 : Nat) (a2 : Int32) (σ3 : fh_S) : Option (Int32 × fh_S) := fh_ob 1 k1 ((fh_gi σ3 1 k1 5).bind fun v4 => if v4 = ((-1 : Int32)) then (fh_gi σ3 1 k1 1).bind fun v5 => if v5 = ((3 : Int32)) then (fh_gr 1 k1 0).bind fun k6 => (fh_gi σ3 1 k1 2).bind fun v7 => fh_cb (f_X3_byteAt k6 v7 σ3) fun r9 σ8 => if r9 = a2 then fh_cb (f_X1_findToken k1 σ8) fun _ σ10 => fh_rz ((1 : Int32)) σ10 else fh_rz ((0 : Int32)) σ8 else fh_rz ((0 : Int32)) σ3 else fh_rz ((0 : Int32)) σ3)
abbrev rm_X1_takeSign : Room := { frames := 3, cells := 0, slots := 0, locals := 62 }
theorem pd_X1_takeSign : yX1_takeSign.cls ≠ "java/lang/invoke/MethodHandle" ∧ yX1_takeSign.cls ≠ "java/lang/invoke/VarHandle" ∧ (parseMethodDescriptor yX1_takeSign.desc).map (fun d => d.parameters.length) = some 1 := by decide +kernel
theorem dX1_takeSign_0 : decode cX1_takeSign 0 = .ok (.aload_n 0, 1) := by decide +kernel
theorem dX1_takeSign_1 : decode cX1_takeSign 1 = .ok (.getfield 15, 3) := by decide +kernel
theorem dX1_takeSign_4 : decode cX1_takeSign 4 = .ok (.iconst (-1), 1) := by decide +kernel
theorem dX1_takeSign_5 : decode cX1_takeSign 5 = .ok (.if_icmp .ne 26, 3) := by decide +kernel
theorem dX1_takeSign_8 : decode cX1_takeSign 8 = .ok (.aload_n 0, 1) := by decide +kernel
theorem dX1_takeSign_9 : decode cX1_takeSign 9 = .ok (.getfield 42, 3) := by decide +kernel
theorem dX1_takeSign_12 : decode cX1_takeSign 12 = .ok (.iconst 3, 1) := by decide +kernel
theorem dX1_takeSign_13 : decode cX1_takeSign 13 = .ok (.if_icmp .ne 18, 3) := by decide +kernel
theorem dX1_takeSign_16 : decode cX1_takeSign 16 = .ok (.aload_n 0, 1) := by decide +kernel
theorem dX1_takeSign_17 : decode cX1_takeSign 17 = .ok (.getfield 9, 3) := by decide +kernel
theorem dX1_takeSign_20 : decode cX1_takeSign 20 = .ok (.aload_n 0, 1) := by decide +kernel
theorem dX1_takeSign_21 : decode cX1_takeSign 21 = .ok (.getfield 95, 3) := by decide +kernel
theorem dX1_takeSign_24 : decode cX1_takeSign 24 = .ok (.invokevirtual 101, 3) := by decide +kernel
theorem dX1_takeSign_27 : decode cX1_takeSign 27 = .ok (.iload_n 1, 1) := by decide +kernel
theorem dX1_takeSign_28 : decode cX1_takeSign 28 = .ok (.if_icmp .eq 5, 3) := by decide +kernel
theorem dX1_takeSign_31 : decode cX1_takeSign 31 = .ok (.iconst 0, 1) := by decide +kernel
theorem dX1_takeSign_32 : decode cX1_takeSign 32 = .ok (.ireturn, 1) := by decide +kernel
theorem dX1_takeSign_33 : decode cX1_takeSign 33 = .ok (.aload_n 0, 1) := by decide +kernel
theorem dX1_takeSign_34 : decode cX1_takeSign 34 = .ok (.invokevirtual 22, 3) := by decide +kernel
theorem dX1_takeSign_37 : decode cX1_takeSign 37 = .ok (.iconst 1, 1) := by decide +kernel
theorem dX1_takeSign_38 : decode cX1_takeSign 38 = .ok (.ireturn, 1) := by decide +kernel
set_option maxHeartbeats 4000000 in
set_option maxRecDepth 100000 in
theorem g_X1_takeSign {E : fh_E} {M : fh_M} (C : fh_Cx E M cX1_takeSign 2 RX1 ((some FieldType.boolean)) rm_X1_takeSign) (Hr : fh_Rt E M) (k1 : Nat) (a2 : Int32) (σ3 : fh_S) : fh_Go E M 2 fh_vI 0 [(0, .ref (fh_ad E k1)), (1, .int a2)] [] σ3 (f_X1_takeSign k1 a2 σ3) := by
  have hok := fh_cok C
  refine go_ob ?_
  refine go_aload_n C 0 rfl rfl dX1_takeSign_0 ?_
  refine go_gi (ci := 1) (j := 5) C fh_in1 rfl (by decide) rfl q_104 dX1_takeSign_1 (fun v4 => ?_)
  refine go_iconst C (-1 : Int32) dX1_takeSign_4 rfl ?_
  refine go_icmp_ne (tgt := 31) C dX1_takeSign_5 rfl (fun _ => ?_) (fun _ => ?_)
  · refine go_iconst C (0 : Int32) dX1_takeSign_31 rfl ?_
    exact go_zret C Hr dX1_takeSign_32
  · refine go_aload_n C 0 rfl rfl dX1_takeSign_8 ?_
    refine go_gi (ci := 1) (j := 1) C fh_in1 rfl (by decide) rfl q_100 dX1_takeSign_9 (fun v5 => ?_)
    refine go_iconst C (3 : Int32) dX1_takeSign_12 rfl ?_
    refine go_icmp_ne (tgt := 31) C dX1_takeSign_13 rfl (fun _ => ?_) (fun _ => ?_)
    · refine go_iconst C (0 : Int32) dX1_takeSign_31 rfl ?_
      exact go_zret C Hr dX1_takeSign_32
    · refine go_aload_n C 0 rfl rfl dX1_takeSign_16 ?_
      refine go_gr (ci := 1) (j := 0) C fh_in1 rfl (by decide) rfl q_99 dX1_takeSign_17 (fun k6 => ?_)
      refine go_aload_n C 0 rfl rfl dX1_takeSign_20 ?_
      refine go_gi (ci := 1) (j := 2) C fh_in1 rfl (by decide) rfl q_101 dX1_takeSign_21 (fun v7 => ?_)
      refine go_callVI C (st := []) [.int v7] (m_X3_byteAt E _ hok k6 v7 σ3) (fun _ h => fh_ob_ok h) rfl rfl ⟨q_538, q_539, q_540, q_3, q_541⟩ pd_X3_byteAt rfl ⟨⟨Nat.le_of_ble_eq_true rfl, Nat.le_of_ble_eq_true rfl⟩, rfl, rfl⟩ (Nat.le_of_ble_eq_true rfl) dX1_takeSign_24 (fun r9 σ8 => ?_)
      refine go_iload_n C 1 rfl rfl dX1_takeSign_27 ?_
      refine go_icmp_eq (tgt := 33) C dX1_takeSign_28 rfl (fun _ => ?_) (fun _ => ?_)
      · refine go_aload_n C 0 rfl rfl dX1_takeSign_33 ?_
        refine go_callVU C (st := []) [] (m_X1_findToken E _ hok k1 σ8) (fun _ h => fh_ob_ok h) rfl rfl ⟨q_534, q_536, qs_8, q_4, q_537⟩ pd_X1_findToken rfl ⟨⟨Nat.le_of_ble_eq_true rfl, Nat.le_of_ble_eq_true rfl⟩, rfl, rfl⟩ (Nat.le_of_ble_eq_true rfl) dX1_takeSign_34 (fun _ σ10 => ?_)
        refine go_iconst C (1 : Int32) dX1_takeSign_37 rfl ?_
        exact go_zret C Hr dX1_takeSign_38
      · refine go_iconst C (0 : Int32) dX1_takeSign_31 rfl ?_
        exact go_zret C Hr dX1_takeSign_32
theorem m_X1_takeSign (E : fh_E) (l : Launch) (hok : fh_ok E) (k1 : Nat) (a2 : Int32) (σ3 : fh_S) : fh_Met E l yX1_takeSign cX1_takeSign 2 ((some FieldType.boolean)) rm_X1_takeSign fh_vI [.ref (fh_ad E k1), .int a2] σ3 (f_X1_takeSign k1 a2 σ3) := fh_met hok (by decide +kernel) (Nat.le_of_ble_eq_true rfl) (fun M _ C Hr => g_X1_takeSign C Hr k1 a2 σ3)
def f_X1_takeWord (k1 : Nat) (i2 : Nat) (σ3 : fh_S) : Option (Int32 × fh_S) := fh_ob 1 k1 ((fh_gi σ3 1 k1 5).bind fun v4 => if v4 = ((-1 : Int32)) then fh_cb (f_X1_isWord k1 i2 σ3) fun r6 σ5 => if r6 = 0 then fh_rz ((0 : Int32)) σ5 else fh_cb (f_X1_findToken k1 σ5) fun _ σ7 => fh_rz ((1 : Int32)) σ7 else fh_rz ((0 : Int32)) σ3)
abbrev rm_X1_takeWord : Room := { frames := 5, cells := 0, slots := 0, locals := 107 }
theorem pd_X1_takeWord : yX1_takeWord.cls ≠ "java/lang/invoke/MethodHandle" ∧ yX1_takeWord.cls ≠ "java/lang/invoke/VarHandle" ∧ (parseMethodDescriptor yX1_takeWord.desc).map (fun d => d.parameters.length) = some 1 := by decide +kernel
theorem dX1_takeWord_0 : decode cX1_takeWord 0 = .ok (.aload_n 0, 1) := by decide +kernel
theorem dX1_takeWord_1 : decode cX1_takeWord 1 = .ok (.getfield 15, 3) := by decide +kernel
theorem dX1_takeWord_4 : decode cX1_takeWord 4 = .ok (.iconst (-1), 1) := by decide +kernel
theorem dX1_takeWord_5 : decode cX1_takeWord 5 = .ok (.if_icmp .ne 11, 3) := by decide +kernel
theorem dX1_takeWord_8 : decode cX1_takeWord 8 = .ok (.aload_n 0, 1) := by decide +kernel
theorem dX1_takeWord_9 : decode cX1_takeWord 9 = .ok (.aload_n 1, 1) := by decide +kernel
theorem dX1_takeWord_10 : decode cX1_takeWord 10 = .ok (.invokevirtual 98, 3) := by decide +kernel
theorem dX1_takeWord_13 : decode cX1_takeWord 13 = .ok (.ifCond .ne 5, 3) := by decide +kernel
theorem dX1_takeWord_16 : decode cX1_takeWord 16 = .ok (.iconst 0, 1) := by decide +kernel
theorem dX1_takeWord_17 : decode cX1_takeWord 17 = .ok (.ireturn, 1) := by decide +kernel
theorem dX1_takeWord_18 : decode cX1_takeWord 18 = .ok (.aload_n 0, 1) := by decide +kernel
theorem dX1_takeWord_19 : decode cX1_takeWord 19 = .ok (.invokevirtual 22, 3) := by decide +kernel
theorem dX1_takeWord_22 : decode cX1_takeWord 22 = .ok (.iconst 1, 1) := by decide +kernel
theorem dX1_takeWord_23 : decode cX1_takeWord 23 = .ok (.ireturn, 1) := by decide +kernel
set_option maxHeartbeats 4000000 in
set_option maxRecDepth 100000 in
theorem g_X1_takeWord {E : fh_E} {M : fh_M} (C : fh_Cx E M cX1_takeWord 2 RX1 ((some FieldType.boolean)) rm_X1_takeWord) (Hr : fh_Rt E M) (k1 : Nat) (i2 : Nat) (σ3 : fh_S) : fh_Go E M 2 fh_vI 0 [(0, .ref (fh_ad E k1)), (1, .ref (fh_aK E i2))] [] σ3 (f_X1_takeWord k1 i2 σ3) := by
  have hok := fh_cok C
  refine go_ob ?_
  refine go_aload_n C 0 rfl rfl dX1_takeWord_0 ?_
  refine go_gi (ci := 1) (j := 5) C fh_in1 rfl (by decide) rfl q_104 dX1_takeWord_1 (fun v4 => ?_)
  refine go_iconst C (-1 : Int32) dX1_takeWord_4 rfl ?_
  refine go_icmp_ne (tgt := 16) C dX1_takeWord_5 rfl (fun _ => ?_) (fun _ => ?_)
  · refine go_iconst C (0 : Int32) dX1_takeWord_16 rfl ?_
    exact go_zret C Hr dX1_takeWord_17
  · refine go_aload_n C 0 rfl rfl dX1_takeWord_8 ?_
    refine go_aload_n C 1 rfl rfl dX1_takeWord_9 ?_
    refine go_callVI C (st := []) [.ref (fh_aK E i2)] (m_X1_isWord E _ hok k1 i2 σ3) (fun _ h => fh_ob_ok h) rfl rfl ⟨q_562, q_564, qs_12, q_4, q_565⟩ pd_X1_isWord rfl ⟨⟨Nat.le_of_ble_eq_true rfl, Nat.le_of_ble_eq_true rfl⟩, rfl, rfl⟩ (Nat.le_of_ble_eq_true rfl) dX1_takeWord_10 (fun r6 σ5 => ?_)
    refine go_if_ne (tgt := 18) C dX1_takeWord_13 rfl (fun _ => ?_) (fun _ => ?_)
    · refine go_aload_n C 0 rfl rfl dX1_takeWord_18 ?_
      refine go_callVU C (st := []) [] (m_X1_findToken E _ hok k1 σ5) (fun _ h => fh_ob_ok h) rfl rfl ⟨q_534, q_536, qs_8, q_4, q_537⟩ pd_X1_findToken rfl ⟨⟨Nat.le_of_ble_eq_true rfl, Nat.le_of_ble_eq_true rfl⟩, rfl, rfl⟩ (Nat.le_of_ble_eq_true rfl) dX1_takeWord_19 (fun _ σ7 => ?_)
      refine go_iconst C (1 : Int32) dX1_takeWord_22 rfl ?_
      exact go_zret C Hr dX1_takeWord_23
    · refine go_iconst C (0 : Int32) dX1_takeWord_16 rfl ?_
      exact go_zret C Hr dX1_takeWord_17
theorem m_X1_takeWord (E : fh_E) (l : Launch) (hok : fh_ok E) (k1 : Nat) (i2 : Nat) (σ3 : fh_S) : fh_Met E l yX1_takeWord cX1_takeWord 2 ((some FieldType.boolean)) rm_X1_takeWord fh_vI [.ref (fh_ad E k1), .ref (fh_aK E i2)] σ3 (f_X1_takeWord k1 i2 σ3) := fh_met hok (by decide +kernel) (Nat.le_of_ble_eq_true rfl) (fun M _ C Hr => g_X1_takeWord C Hr k1 i2 σ3)
def f_X1_readDial_J16 (k1 : Nat) : fh_S → Option (Unit × fh_S) := fun σ6 => fh_cb (f_X1_refuse k1 σ6) fun _ σ7 => some ((), σ7)
def f_X1_readDial_J139 (k1 : Nat) (k2 : Nat) (r13 : Int32) : fh_S → Option (Unit × fh_S) := fun σ25 => fh_cb (f_X1_takeWord k1 12 σ25) fun r27 σ26 => if r27 = 0 then some ((), σ26) else fh_cb (f_X0_freeze k2 r13 σ26) fun r29 σ28 => some ((), σ28)
def f_X1_readDial_J118 (k1 : Nat) (k2 : Nat) (r13 : Int32) : fh_S → Option (Unit × fh_S) := fun σ22 => fh_cb (f_X1_takeWord k1 11 σ22) fun r24 σ23 => fh_jn (f_X1_readDial_J139 k1 k2 r13) (fun j30 => if r24 = 0 then j30 σ23 else (fh_gr 0 k2 5).bind fun k31 => fh_cb (f_X1_takeNumber k1 ((9 : Int32)) σ23) fun r33 σ32 => (fh_st σ32 k31 r13 r33).bind fun σ34 => j30 σ34)
def f_X1_readDial_J101 (k2 : Nat) (k1 : Nat) (r13 : Int32) (j35 : fh_S → Option (Unit × fh_S)) : Int32 → fh_S → Option (Unit × fh_S) := fun x38 σ39 => (fh_gr 0 k2 3).bind fun k40 => fh_cb (f_X1_takeNumber k1 ((99 : Int32)) σ39) fun r42 σ41 => (fh_st σ41 k40 r13 (x38 * r42)).bind fun σ43 => j35 σ43
def f_X1_readDial_J78 (k1 : Nat) (k2 : Nat) (r13 : Int32) : fh_S → Option (Unit × fh_S) := fun σ19 => fh_cb (f_X1_takeWord k1 10 σ19) fun r21 σ20 => fh_jn (f_X1_readDial_J118 k1 k2 r13) (fun j35 => if r21 = 0 then j35 σ20 else fh_cb (f_X1_takeSign k1 ((45 : Int32)) σ20) fun r37 σ36 => fh_jn (f_X1_readDial_J101 k2 k1 r13 j35) (fun j44 => if r37 = 0 then j44 ((1 : Int32)) σ36 else j44 ((-1 : Int32)) σ36))
def f_X1_readDial_J53 (k1 : Nat) (k2 : Nat) (r13 : Int32) : fh_S → Option (Unit × fh_S) := fun σ16 => fh_cb (f_X1_takeWord k1 9 σ16) fun r18 σ17 => fh_jn (f_X1_readDial_J78 k1 k2 r13) (fun j45 => if r18 = 0 then j45 σ17 else (fh_gr 0 k2 2).bind fun k46 => (fh_gi σ17 0 k2 9).bind fun v47 => fh_cb (f_X1_takeNumber k1 (v47 - ((1 : Int32))) σ17) fun r49 σ48 => (fh_st σ48 k46 r13 r49).bind fun σ50 => j45 σ50)
def f_X1_readDial (k1 : Nat) (k2 : Nat) (σ3 : fh_S) : Option (Unit × fh_S) := fh_ob 1 k1 (fh_cb (f_X1_kindOfWord k1 σ3) fun r5 σ4 => fh_jn (f_X1_readDial_J16 k1) (fun j8 => if r5 < 0 then j8 σ4 else fh_cb (f_X0_isFull k2 σ4) fun r10 σ9 => if r10 = 0 then fh_cb (f_X1_findToken k1 σ9) fun _ σ11 => fh_cb (f_X0_add k2 r5 σ11) fun r13 σ12 => fh_cb (f_X1_takeWord k1 8 σ12) fun r15 σ14 => fh_jn (f_X1_readDial_J53 k1 k2 r13) (fun j51 => if r15 = 0 then j51 σ14 else (fh_gr 0 k2 1).bind fun k52 => fh_cb (f_X1_takeNumber k1 ((719 : Int32)) σ14) fun r54 σ53 => (fh_st σ53 k52 r13 r54).bind fun σ55 => j51 σ55) else j8 σ9))
abbrev rm_X1_readDial : Room := { frames := 6, cells := 0, slots := 0, locals := 128 }
theorem pd_X1_readDial : yX1_readDial.cls ≠ "java/lang/invoke/MethodHandle" ∧ yX1_readDial.cls ≠ "java/lang/invoke/VarHandle" ∧ (parseMethodDescriptor yX1_readDial.desc).map (fun d => d.parameters.length) = some 1 := by decide +kernel
theorem dX1_readDial_0 : decode cX1_readDial 0 = .ok (.aload_n 0, 1) := by decide +kernel
theorem dX1_readDial_1 : decode cX1_readDial 1 = .ok (.invokevirtual 61, 3) := by decide +kernel
theorem dX1_readDial_4 : decode cX1_readDial 4 = .ok (.istore_n 2, 1) := by decide +kernel
theorem dX1_readDial_5 : decode cX1_readDial 5 = .ok (.iload_n 2, 1) := by decide +kernel
theorem dX1_readDial_6 : decode cX1_readDial 6 = .ok (.ifCond .lt 10, 3) := by decide +kernel
theorem dX1_readDial_9 : decode cX1_readDial 9 = .ok (.aload_n 1, 1) := by decide +kernel
theorem dX1_readDial_10 : decode cX1_readDial 10 = .ok (.invokevirtual 65, 3) := by decide +kernel
theorem dX1_readDial_13 : decode cX1_readDial 13 = .ok (.ifCond .eq 8, 3) := by decide +kernel
theorem dX1_readDial_16 : decode cX1_readDial 16 = .ok (.aload_n 0, 1) := by decide +kernel
theorem dX1_readDial_17 : decode cX1_readDial 17 = .ok (.invokevirtual 45, 3) := by decide +kernel
theorem dX1_readDial_20 : decode cX1_readDial 20 = .ok (.return_, 1) := by decide +kernel
theorem dX1_readDial_21 : decode cX1_readDial 21 = .ok (.aload_n 0, 1) := by decide +kernel
theorem dX1_readDial_22 : decode cX1_readDial 22 = .ok (.invokevirtual 22, 3) := by decide +kernel
theorem dX1_readDial_25 : decode cX1_readDial 25 = .ok (.aload_n 1, 1) := by decide +kernel
theorem dX1_readDial_26 : decode cX1_readDial 26 = .ok (.iload_n 2, 1) := by decide +kernel
theorem dX1_readDial_27 : decode cX1_readDial 27 = .ok (.invokevirtual 69, 3) := by decide +kernel
theorem dX1_readDial_30 : decode cX1_readDial 30 = .ok (.istore_n 3, 1) := by decide +kernel
theorem dX1_readDial_31 : decode cX1_readDial 31 = .ok (.aload_n 0, 1) := by decide +kernel
theorem dX1_readDial_32 : decode cX1_readDial 32 = .ok (.ldc 72, 2) := by decide +kernel
theorem dX1_readDial_34 : decode cX1_readDial 34 = .ok (.invokevirtual 27, 3) := by decide +kernel
theorem dX1_readDial_37 : decode cX1_readDial 37 = .ok (.ifCond .eq 16, 3) := by decide +kernel
theorem dX1_readDial_40 : decode cX1_readDial 40 = .ok (.aload_n 1, 1) := by decide +kernel
theorem dX1_readDial_41 : decode cX1_readDial 41 = .ok (.getfield 74, 3) := by decide +kernel
theorem dX1_readDial_44 : decode cX1_readDial 44 = .ok (.iload_n 3, 1) := by decide +kernel
theorem dX1_readDial_45 : decode cX1_readDial 45 = .ok (.aload_n 0, 1) := by decide +kernel
theorem dX1_readDial_46 : decode cX1_readDial 46 = .ok (.sipush 719, 3) := by decide +kernel
theorem dX1_readDial_49 : decode cX1_readDial 49 = .ok (.invokevirtual 53, 3) := by decide +kernel
theorem dX1_readDial_52 : decode cX1_readDial 52 = .ok (.iastore, 1) := by decide +kernel
theorem dX1_readDial_53 : decode cX1_readDial 53 = .ok (.aload_n 0, 1) := by decide +kernel
theorem dX1_readDial_54 : decode cX1_readDial 54 = .ok (.ldc 77, 2) := by decide +kernel
theorem dX1_readDial_56 : decode cX1_readDial 56 = .ok (.invokevirtual 27, 3) := by decide +kernel
theorem dX1_readDial_59 : decode cX1_readDial 59 = .ok (.ifCond .eq 19, 3) := by decide +kernel
theorem dX1_readDial_62 : decode cX1_readDial 62 = .ok (.aload_n 1, 1) := by decide +kernel
theorem dX1_readDial_63 : decode cX1_readDial 63 = .ok (.getfield 57, 3) := by decide +kernel
theorem dX1_readDial_66 : decode cX1_readDial 66 = .ok (.iload_n 3, 1) := by decide +kernel
theorem dX1_readDial_67 : decode cX1_readDial 67 = .ok (.aload_n 0, 1) := by decide +kernel
theorem dX1_readDial_68 : decode cX1_readDial 68 = .ok (.aload_n 1, 1) := by decide +kernel
theorem dX1_readDial_69 : decode cX1_readDial 69 = .ok (.getfield 48, 3) := by decide +kernel
theorem dX1_readDial_72 : decode cX1_readDial 72 = .ok (.iconst 1, 1) := by decide +kernel
theorem dX1_readDial_73 : decode cX1_readDial 73 = .ok (.isub, 1) := by decide +kernel
theorem dX1_readDial_74 : decode cX1_readDial 74 = .ok (.invokevirtual 53, 3) := by decide +kernel
theorem dX1_readDial_77 : decode cX1_readDial 77 = .ok (.iastore, 1) := by decide +kernel
theorem dX1_readDial_78 : decode cX1_readDial 78 = .ok (.aload_n 0, 1) := by decide +kernel
theorem dX1_readDial_79 : decode cX1_readDial 79 = .ok (.ldc 79, 2) := by decide +kernel
theorem dX1_readDial_81 : decode cX1_readDial 81 = .ok (.invokevirtual 27, 3) := by decide +kernel
theorem dX1_readDial_84 : decode cX1_readDial 84 = .ok (.ifCond .eq 34, 3) := by decide +kernel
theorem dX1_readDial_87 : decode cX1_readDial 87 = .ok (.aload_n 0, 1) := by decide +kernel
theorem dX1_readDial_88 : decode cX1_readDial 88 = .ok (.bipush 45, 2) := by decide +kernel
theorem dX1_readDial_90 : decode cX1_readDial 90 = .ok (.invokevirtual 38, 3) := by decide +kernel
theorem dX1_readDial_93 : decode cX1_readDial 93 = .ok (.ifCond .eq 7, 3) := by decide +kernel
theorem dX1_readDial_96 : decode cX1_readDial 96 = .ok (.iconst (-1), 1) := by decide +kernel
theorem dX1_readDial_97 : decode cX1_readDial 97 = .ok (.goto 4, 3) := by decide +kernel
theorem dX1_readDial_100 : decode cX1_readDial 100 = .ok (.iconst 1, 1) := by decide +kernel
theorem dX1_readDial_101 : decode cX1_readDial 101 = .ok (.istore 4, 2) := by decide +kernel
theorem dX1_readDial_103 : decode cX1_readDial 103 = .ok (.aload_n 1, 1) := by decide +kernel
theorem dX1_readDial_104 : decode cX1_readDial 104 = .ok (.getfield 81, 3) := by decide +kernel
theorem dX1_readDial_107 : decode cX1_readDial 107 = .ok (.iload_n 3, 1) := by decide +kernel
theorem dX1_readDial_108 : decode cX1_readDial 108 = .ok (.iload 4, 2) := by decide +kernel
theorem dX1_readDial_110 : decode cX1_readDial 110 = .ok (.aload_n 0, 1) := by decide +kernel
theorem dX1_readDial_111 : decode cX1_readDial 111 = .ok (.bipush 99, 2) := by decide +kernel
theorem dX1_readDial_113 : decode cX1_readDial 113 = .ok (.invokevirtual 53, 3) := by decide +kernel
theorem dX1_readDial_116 : decode cX1_readDial 116 = .ok (.imul, 1) := by decide +kernel
theorem dX1_readDial_117 : decode cX1_readDial 117 = .ok (.iastore, 1) := by decide +kernel
theorem dX1_readDial_118 : decode cX1_readDial 118 = .ok (.aload_n 0, 1) := by decide +kernel
theorem dX1_readDial_119 : decode cX1_readDial 119 = .ok (.ldc 84, 2) := by decide +kernel
theorem dX1_readDial_121 : decode cX1_readDial 121 = .ok (.invokevirtual 27, 3) := by decide +kernel
theorem dX1_readDial_124 : decode cX1_readDial 124 = .ok (.ifCond .eq 15, 3) := by decide +kernel
theorem dX1_readDial_127 : decode cX1_readDial 127 = .ok (.aload_n 1, 1) := by decide +kernel
theorem dX1_readDial_128 : decode cX1_readDial 128 = .ok (.getfield 86, 3) := by decide +kernel
theorem dX1_readDial_131 : decode cX1_readDial 131 = .ok (.iload_n 3, 1) := by decide +kernel
theorem dX1_readDial_132 : decode cX1_readDial 132 = .ok (.aload_n 0, 1) := by decide +kernel
theorem dX1_readDial_133 : decode cX1_readDial 133 = .ok (.bipush 9, 2) := by decide +kernel
theorem dX1_readDial_135 : decode cX1_readDial 135 = .ok (.invokevirtual 53, 3) := by decide +kernel
theorem dX1_readDial_138 : decode cX1_readDial 138 = .ok (.iastore, 1) := by decide +kernel
theorem dX1_readDial_139 : decode cX1_readDial 139 = .ok (.aload_n 0, 1) := by decide +kernel
theorem dX1_readDial_140 : decode cX1_readDial 140 = .ok (.ldc 89, 2) := by decide +kernel
theorem dX1_readDial_142 : decode cX1_readDial 142 = .ok (.invokevirtual 27, 3) := by decide +kernel
theorem dX1_readDial_145 : decode cX1_readDial 145 = .ok (.ifCond .eq 9, 3) := by decide +kernel
theorem dX1_readDial_148 : decode cX1_readDial 148 = .ok (.aload_n 1, 1) := by decide +kernel
theorem dX1_readDial_149 : decode cX1_readDial 149 = .ok (.iload_n 3, 1) := by decide +kernel
theorem dX1_readDial_150 : decode cX1_readDial 150 = .ok (.invokevirtual 91, 3) := by decide +kernel
theorem dX1_readDial_153 : decode cX1_readDial 153 = .ok (.pop, 1) := by decide +kernel
theorem dX1_readDial_154 : decode cX1_readDial 154 = .ok (.return_, 1) := by decide +kernel
set_option maxHeartbeats 4000000 in
set_option maxRecDepth 100000 in
theorem g_X1_readDial {E : fh_E} {M : fh_M} (C : fh_Cx E M cX1_readDial 5 RX1 (none) rm_X1_readDial) (Hr : fh_Rt E M) (k1 : Nat) (k2 : Nat) (σ3 : fh_S) : fh_Go E M 5 fh_vU 0 [(0, .ref (fh_ad E k1)), (1, .ref (fh_ad E k2))] [] σ3 (f_X1_readDial k1 k2 σ3) := by
  have hok := fh_cok C
  refine go_ob ?_
  refine go_aload_n C 0 rfl rfl dX1_readDial_0 ?_
  refine go_callVI C (st := []) [] (m_X1_kindOfWord E _ hok k1 σ3) (fun _ h => fh_ob_ok h) rfl rfl ⟨q_630, q_632, qs_17, q_4, q_633⟩ pd_X1_kindOfWord rfl ⟨⟨Nat.le_of_ble_eq_true rfl, Nat.le_of_ble_eq_true rfl⟩, rfl, rfl⟩ (Nat.le_of_ble_eq_true rfl) dX1_readDial_1 (fun r5 σ4 => ?_)
  refine go_istore_n C [(2, .int r5), (0, .ref (fh_ad E k1)), (1, .ref (fh_ad E k2))] rfl rfl (by decide) dX1_readDial_4 ?_
  refine go_iload_n C 0 rfl rfl dX1_readDial_5 ?_
  refine go_jn (fun (j8 : fh_S → Option (Unit × fh_S)) => ∀ (σ6 : fh_S), fh_Go E M 5 fh_vU 16 [(0, .ref (fh_ad E k1))] [] σ6 (j8 σ6)) ?_ (fun j8 hj8 => ?_)
  · intro σ6
    refine go_aload_n C 0 rfl rfl dX1_readDial_16 ?_
    refine go_callVU C (st := []) [] (m_X1_refuse E _ hok k1 σ6) (fun _ h => fh_ob_ok h) rfl rfl ⟨q_622, q_624, qs_15, q_4, q_625⟩ pd_X1_refuse rfl ⟨⟨Nat.le_of_ble_eq_true rfl, Nat.le_of_ble_eq_true rfl⟩, rfl, rfl⟩ (Nat.le_of_ble_eq_true rfl) dX1_readDial_17 (fun _ σ7 => ?_)
    exact go_vret C Hr rfl dX1_readDial_20
  refine go_if_lt (tgt := 16) C dX1_readDial_6 rfl (fun _ => ?_) (fun _ => ?_)
  · refine go_lv [1] (lv' := [(0, .ref (fh_ad E k1))]) rfl ?_
    exact hj8 σ4
  · refine go_aload_n C 2 rfl rfl dX1_readDial_9 ?_
    refine go_callVI C (st := []) [] (m_X0_isFull E _ hok k2 σ4) (fun _ h => fh_ob_ok h) rfl rfl ⟨q_645, q_181, q_182, q_2, q_183⟩ pd_X0_isFull rfl ⟨⟨Nat.le_of_ble_eq_true rfl, Nat.le_of_ble_eq_true rfl⟩, rfl, rfl⟩ (Nat.le_of_ble_eq_true rfl) dX1_readDial_10 (fun r10 σ9 => ?_)
    refine go_if_eq (tgt := 21) C dX1_readDial_13 rfl (fun _ => ?_) (fun _ => ?_)
    · refine go_aload_n C 1 rfl rfl dX1_readDial_21 ?_
      refine go_callVU C (st := []) [] (m_X1_findToken E _ hok k1 σ9) (fun _ h => fh_ob_ok h) rfl rfl ⟨q_534, q_536, qs_8, q_4, q_537⟩ pd_X1_findToken rfl ⟨⟨Nat.le_of_ble_eq_true rfl, Nat.le_of_ble_eq_true rfl⟩, rfl, rfl⟩ (Nat.le_of_ble_eq_true rfl) dX1_readDial_22 (fun _ σ11 => ?_)
      refine go_aload_n C 2 rfl rfl dX1_readDial_25 ?_
      refine go_iload_n C 0 rfl rfl dX1_readDial_26 ?_
      refine go_callVI C (st := []) [.int r5] (m_X0_add E _ hok k2 r5 σ11) (fun _ h => fh_ob_ok h) rfl rfl ⟨q_646, q_186, q_187, q_2, q_188⟩ pd_X0_add rfl ⟨⟨Nat.le_of_ble_eq_true rfl, Nat.le_of_ble_eq_true rfl⟩, rfl, rfl⟩ (Nat.le_of_ble_eq_true rfl) dX1_readDial_27 (fun r13 σ12 => ?_)
      refine go_istore_n C [(3, .int r13), (2, .int r5), (0, .ref (fh_ad E k1)), (1, .ref (fh_ad E k2))] rfl rfl (by decide) dX1_readDial_30 ?_
      refine go_aload_n C 2 rfl rfl dX1_readDial_31 ?_
      refine go_ldcS C 8 rfl dX1_readDial_32 ?_
      refine go_callVI C (st := []) [.ref (fh_aK E 8)] (m_X1_takeWord E _ hok k1 8 σ12) (fun _ h => fh_ob_ok h) rfl rfl ⟨q_558, q_560, qs_11, q_4, q_561⟩ pd_X1_takeWord rfl ⟨⟨Nat.le_of_ble_eq_true rfl, Nat.le_of_ble_eq_true rfl⟩, rfl, rfl⟩ (Nat.le_of_ble_eq_true rfl) dX1_readDial_34 (fun r15 σ14 => ?_)
      refine go_jn (fun (j51 : fh_S → Option (Unit × fh_S)) => ∀ (σ16 : fh_S), fh_Go E M 5 fh_vU 53 [(0, .ref (fh_ad E k1)), (1, .ref (fh_ad E k2)), (3, .int r13)] [] σ16 (j51 σ16)) ?_ (fun j51 hj51 => ?_)
      · intro σ16
        refine go_aload_n C 0 rfl rfl dX1_readDial_53 ?_
        refine go_ldcS C 9 rfl dX1_readDial_54 ?_
        refine go_callVI C (st := []) [.ref (fh_aK E 9)] (m_X1_takeWord E _ hok k1 9 σ16) (fun _ h => fh_ob_ok h) rfl rfl ⟨q_558, q_560, qs_11, q_4, q_561⟩ pd_X1_takeWord rfl ⟨⟨Nat.le_of_ble_eq_true rfl, Nat.le_of_ble_eq_true rfl⟩, rfl, rfl⟩ (Nat.le_of_ble_eq_true rfl) dX1_readDial_56 (fun r18 σ17 => ?_)
        refine go_jn (fun (j45 : fh_S → Option (Unit × fh_S)) => ∀ (σ19 : fh_S), fh_Go E M 5 fh_vU 78 [(0, .ref (fh_ad E k1)), (1, .ref (fh_ad E k2)), (3, .int r13)] [] σ19 (j45 σ19)) ?_ (fun j45 hj45 => ?_)
        · intro σ19
          refine go_aload_n C 0 rfl rfl dX1_readDial_78 ?_
          refine go_ldcS C 10 rfl dX1_readDial_79 ?_
          refine go_callVI C (st := []) [.ref (fh_aK E 10)] (m_X1_takeWord E _ hok k1 10 σ19) (fun _ h => fh_ob_ok h) rfl rfl ⟨q_558, q_560, qs_11, q_4, q_561⟩ pd_X1_takeWord rfl ⟨⟨Nat.le_of_ble_eq_true rfl, Nat.le_of_ble_eq_true rfl⟩, rfl, rfl⟩ (Nat.le_of_ble_eq_true rfl) dX1_readDial_81 (fun r21 σ20 => ?_)
          refine go_jn (fun (j35 : fh_S → Option (Unit × fh_S)) => ∀ (σ22 : fh_S), fh_Go E M 5 fh_vU 118 [(0, .ref (fh_ad E k1)), (1, .ref (fh_ad E k2)), (3, .int r13)] [] σ22 (j35 σ22)) ?_ (fun j35 hj35 => ?_)
          · intro σ22
            refine go_aload_n C 0 rfl rfl dX1_readDial_118 ?_
            refine go_ldcS C 11 rfl dX1_readDial_119 ?_
            refine go_callVI C (st := []) [.ref (fh_aK E 11)] (m_X1_takeWord E _ hok k1 11 σ22) (fun _ h => fh_ob_ok h) rfl rfl ⟨q_558, q_560, qs_11, q_4, q_561⟩ pd_X1_takeWord rfl ⟨⟨Nat.le_of_ble_eq_true rfl, Nat.le_of_ble_eq_true rfl⟩, rfl, rfl⟩ (Nat.le_of_ble_eq_true rfl) dX1_readDial_121 (fun r24 σ23 => ?_)
            refine go_jn (fun (j30 : fh_S → Option (Unit × fh_S)) => ∀ (σ25 : fh_S), fh_Go E M 5 fh_vU 139 [(0, .ref (fh_ad E k1)), (1, .ref (fh_ad E k2)), (3, .int r13)] [] σ25 (j30 σ25)) ?_ (fun j30 hj30 => ?_)
            · intro σ25
              refine go_aload_n C 0 rfl rfl dX1_readDial_139 ?_
              refine go_ldcS C 12 rfl dX1_readDial_140 ?_
              refine go_callVI C (st := []) [.ref (fh_aK E 12)] (m_X1_takeWord E _ hok k1 12 σ25) (fun _ h => fh_ob_ok h) rfl rfl ⟨q_558, q_560, qs_11, q_4, q_561⟩ pd_X1_takeWord rfl ⟨⟨Nat.le_of_ble_eq_true rfl, Nat.le_of_ble_eq_true rfl⟩, rfl, rfl⟩ (Nat.le_of_ble_eq_true rfl) dX1_readDial_142 (fun r27 σ26 => ?_)
              refine go_if_eq (tgt := 154) C dX1_readDial_145 rfl (fun _ => ?_) (fun _ => ?_)
              · exact go_vret C Hr rfl dX1_readDial_154
              · refine go_aload_n C 1 rfl rfl dX1_readDial_148 ?_
                refine go_iload_n C 2 rfl rfl dX1_readDial_149 ?_
                refine go_callVI C (st := []) [.int r13] (m_X0_freeze E _ hok k2 r13 σ26) (fun _ h => fh_ob_ok h) rfl rfl ⟨q_656, q_254, q_255, q_2, q_256⟩ pd_X0_freeze rfl ⟨⟨Nat.le_of_ble_eq_true rfl, Nat.le_of_ble_eq_true rfl⟩, rfl, rfl⟩ (Nat.le_of_ble_eq_true rfl) dX1_readDial_150 (fun r29 σ28 => ?_)
                refine go_pop C rfl dX1_readDial_153 ?_
                exact go_vret C Hr rfl dX1_readDial_154
            refine go_if_eq (tgt := 139) C dX1_readDial_124 rfl (fun _ => ?_) (fun _ => ?_)
            · exact hj30 σ23
            · refine go_aload_n C 1 rfl rfl dX1_readDial_127 ?_
              refine go_gr (ci := 0) (j := 5) C fh_in0 rfl (by decide) rfl q_41 dX1_readDial_128 (fun k31 => ?_)
              refine go_iload_n C 2 rfl rfl dX1_readDial_131 ?_
              refine go_aload_n C 0 rfl rfl dX1_readDial_132 ?_
              refine go_bipush C (9 : Int32) dX1_readDial_133 rfl ?_
              refine go_callVI C (st := [.int r13, .ref (fh_ad E k31)]) [.int ((9 : Int32))] (m_X1_takeNumber E _ hok k1 ((9 : Int32)) σ23) (fun _ h => fh_ob_ok h) rfl rfl ⟨q_618, q_620, qs_14, q_4, q_621⟩ pd_X1_takeNumber rfl ⟨⟨Nat.le_of_ble_eq_true rfl, Nat.le_of_ble_eq_true rfl⟩, rfl, rfl⟩ (Nat.le_of_ble_eq_true rfl) dX1_readDial_135 (fun r33 σ32 => ?_)
              refine go_iast C dX1_readDial_138 (fun σ34 => ?_)
              exact hj30 σ34
          refine go_if_eq (tgt := 118) C dX1_readDial_84 rfl (fun _ => ?_) (fun _ => ?_)
          · exact hj35 σ20
          · refine go_aload_n C 0 rfl rfl dX1_readDial_87 ?_
            refine go_bipush C (45 : Int32) dX1_readDial_88 rfl ?_
            refine go_callVI C (st := []) [.int ((45 : Int32))] (m_X1_takeSign E _ hok k1 ((45 : Int32)) σ20) (fun _ h => fh_ob_ok h) rfl rfl ⟨q_650, q_652, qs_18, q_4, q_653⟩ pd_X1_takeSign rfl ⟨⟨Nat.le_of_ble_eq_true rfl, Nat.le_of_ble_eq_true rfl⟩, rfl, rfl⟩ (Nat.le_of_ble_eq_true rfl) dX1_readDial_90 (fun r37 σ36 => ?_)
            refine go_jn (fun (j44 : Int32 → fh_S → Option (Unit × fh_S)) => ∀ (x38 : Int32) (σ39 : fh_S), fh_Go E M 5 fh_vU 101 [(0, .ref (fh_ad E k1)), (1, .ref (fh_ad E k2)), (3, .int r13)] [.int x38] σ39 (j44 x38 σ39)) ?_ (fun j44 hj44 => ?_)
            · intro x38 σ39
              refine go_istore C [(4, .int x38), (0, .ref (fh_ad E k1)), (1, .ref (fh_ad E k2)), (3, .int r13)] rfl (by decide) dX1_readDial_101 ?_
              refine go_aload_n C 2 rfl rfl dX1_readDial_103 ?_
              refine go_gr (ci := 0) (j := 3) C fh_in0 rfl (by decide) rfl q_37 dX1_readDial_104 (fun k40 => ?_)
              refine go_iload_n C 3 rfl rfl dX1_readDial_107 ?_
              refine go_iload C 0 rfl dX1_readDial_108 ?_
              refine go_aload_n C 1 rfl rfl dX1_readDial_110 ?_
              refine go_bipush C (99 : Int32) dX1_readDial_111 rfl ?_
              refine go_callVI C (st := [.int x38, .int r13, .ref (fh_ad E k40)]) [.int ((99 : Int32))] (m_X1_takeNumber E _ hok k1 ((99 : Int32)) σ39) (fun _ h => fh_ob_ok h) rfl rfl ⟨q_618, q_620, qs_14, q_4, q_621⟩ pd_X1_takeNumber rfl ⟨⟨Nat.le_of_ble_eq_true rfl, Nat.le_of_ble_eq_true rfl⟩, rfl, rfl⟩ (Nat.le_of_ble_eq_true rfl) dX1_readDial_113 (fun r42 σ41 => ?_)
              refine go_imul C dX1_readDial_116 ?_
              refine go_iast C dX1_readDial_117 (fun σ43 => ?_)
              refine go_lv [1, 2, 3] (lv' := [(0, .ref (fh_ad E k1)), (1, .ref (fh_ad E k2)), (3, .int r13)]) rfl ?_
              exact hj35 σ43
            refine go_if_eq (tgt := 100) C dX1_readDial_93 rfl (fun _ => ?_) (fun _ => ?_)
            · refine go_iconst C (1 : Int32) dX1_readDial_100 rfl ?_
              exact hj44 ((1 : Int32)) σ36
            · refine go_iconst C (-1 : Int32) dX1_readDial_96 rfl ?_
              refine go_goto C 101 dX1_readDial_97 rfl ?_
              exact hj44 ((-1 : Int32)) σ36
        refine go_if_eq (tgt := 78) C dX1_readDial_59 rfl (fun _ => ?_) (fun _ => ?_)
        · exact hj45 σ17
        · refine go_aload_n C 1 rfl rfl dX1_readDial_62 ?_
          refine go_gr (ci := 0) (j := 2) C fh_in0 rfl (by decide) rfl q_34 dX1_readDial_63 (fun k46 => ?_)
          refine go_iload_n C 2 rfl rfl dX1_readDial_66 ?_
          refine go_aload_n C 0 rfl rfl dX1_readDial_67 ?_
          refine go_aload_n C 1 rfl rfl dX1_readDial_68 ?_
          refine go_gi (ci := 0) (j := 9) C fh_in0 rfl (by decide) rfl q_47 dX1_readDial_69 (fun v47 => ?_)
          refine go_iconst C (1 : Int32) dX1_readDial_72 rfl ?_
          refine go_isub C dX1_readDial_73 ?_
          refine go_callVI C (st := [.int r13, .ref (fh_ad E k46)]) [.int (v47 - ((1 : Int32)))] (m_X1_takeNumber E _ hok k1 (v47 - ((1 : Int32))) σ17) (fun _ h => fh_ob_ok h) rfl rfl ⟨q_618, q_620, qs_14, q_4, q_621⟩ pd_X1_takeNumber rfl ⟨⟨Nat.le_of_ble_eq_true rfl, Nat.le_of_ble_eq_true rfl⟩, rfl, rfl⟩ (Nat.le_of_ble_eq_true rfl) dX1_readDial_74 (fun r49 σ48 => ?_)
          refine go_iast C dX1_readDial_77 (fun σ50 => ?_)
          exact hj45 σ50
      refine go_if_eq (tgt := 53) C dX1_readDial_37 rfl (fun _ => ?_) (fun _ => ?_)
      · refine go_lv [2, 3, 0] (lv' := [(0, .ref (fh_ad E k1)), (1, .ref (fh_ad E k2)), (3, .int r13)]) rfl ?_
        exact hj51 σ14
      · refine go_aload_n C 3 rfl rfl dX1_readDial_40 ?_
        refine go_gr (ci := 0) (j := 1) C fh_in0 rfl (by decide) rfl q_31 dX1_readDial_41 (fun k52 => ?_)
        refine go_iload_n C 0 rfl rfl dX1_readDial_44 ?_
        refine go_aload_n C 2 rfl rfl dX1_readDial_45 ?_
        refine go_sipush C (719 : Int32) dX1_readDial_46 rfl ?_
        refine go_callVI C (st := [.int r13, .ref (fh_ad E k52)]) [.int ((719 : Int32))] (m_X1_takeNumber E _ hok k1 ((719 : Int32)) σ14) (fun _ h => fh_ob_ok h) rfl rfl ⟨q_618, q_620, qs_14, q_4, q_621⟩ pd_X1_takeNumber rfl ⟨⟨Nat.le_of_ble_eq_true rfl, Nat.le_of_ble_eq_true rfl⟩, rfl, rfl⟩ (Nat.le_of_ble_eq_true rfl) dX1_readDial_49 (fun r54 σ53 => ?_)
        refine go_iast C dX1_readDial_52 (fun σ55 => ?_)
        refine go_lv [2, 3, 0] (lv' := [(0, .ref (fh_ad E k1)), (1, .ref (fh_ad E k2)), (3, .int r13)]) rfl ?_
        exact hj51 σ55
    · refine go_lv [1] (lv' := [(0, .ref (fh_ad E k1))]) rfl ?_
      exact hj8 σ9
theorem m_X1_readDial (E : fh_E) (l : Launch) (hok : fh_ok E) (k1 : Nat) (k2 : Nat) (σ3 : fh_S) : fh_Met E l yX1_readDial cX1_readDial 5 (none) rm_X1_readDial fh_vU [.ref (fh_ad E k1), .ref (fh_ad E k2)] σ3 (f_X1_readDial k1 k2 σ3) := fh_met hok (by decide +kernel) (Nat.le_of_ble_eq_true rfl) (fun M _ C Hr => g_X1_readDial C Hr k1 k2 σ3)
def f_X1_readMaster (k1 : Nat) (k2 : Nat) (σ3 : fh_S) : Option (Unit × fh_S) := fh_ob 1 k1 ((fh_gi σ3 0 k2 9).bind fun v4 => fh_cb (f_X1_takeNumber k1 (v4 - ((1 : Int32))) σ3) fun r6 σ5 => (fh_gi σ5 0 k2 9).bind fun v7 => fh_cb (f_X1_takeNumber k1 (v7 - ((1 : Int32))) σ5) fun r9 σ8 => (fh_gi σ8 1 k1 5).bind fun v10 => if v10 = ((-1 : Int32)) then (fh_gr 0 k2 2).bind fun k11 => (fh_st σ8 k11 r6 r9).bind fun σ12 => some ((), σ12) else some ((), σ8))
abbrev rm_X1_readMaster : Room := { frames := 4, cells := 0, slots := 0, locals := 84 }
theorem pd_X1_readMaster : yX1_readMaster.cls ≠ "java/lang/invoke/MethodHandle" ∧ yX1_readMaster.cls ≠ "java/lang/invoke/VarHandle" ∧ (parseMethodDescriptor yX1_readMaster.desc).map (fun d => d.parameters.length) = some 1 := by decide +kernel
theorem dX1_readMaster_0 : decode cX1_readMaster 0 = .ok (.aload_n 0, 1) := by decide +kernel
theorem dX1_readMaster_1 : decode cX1_readMaster 1 = .ok (.aload_n 1, 1) := by decide +kernel
theorem dX1_readMaster_2 : decode cX1_readMaster 2 = .ok (.getfield 48, 3) := by decide +kernel
theorem dX1_readMaster_5 : decode cX1_readMaster 5 = .ok (.iconst 1, 1) := by decide +kernel
theorem dX1_readMaster_6 : decode cX1_readMaster 6 = .ok (.isub, 1) := by decide +kernel
theorem dX1_readMaster_7 : decode cX1_readMaster 7 = .ok (.invokevirtual 53, 3) := by decide +kernel
theorem dX1_readMaster_10 : decode cX1_readMaster 10 = .ok (.istore_n 2, 1) := by decide +kernel
theorem dX1_readMaster_11 : decode cX1_readMaster 11 = .ok (.aload_n 0, 1) := by decide +kernel
theorem dX1_readMaster_12 : decode cX1_readMaster 12 = .ok (.aload_n 1, 1) := by decide +kernel
theorem dX1_readMaster_13 : decode cX1_readMaster 13 = .ok (.getfield 48, 3) := by decide +kernel
theorem dX1_readMaster_16 : decode cX1_readMaster 16 = .ok (.iconst 1, 1) := by decide +kernel
theorem dX1_readMaster_17 : decode cX1_readMaster 17 = .ok (.isub, 1) := by decide +kernel
theorem dX1_readMaster_18 : decode cX1_readMaster 18 = .ok (.invokevirtual 53, 3) := by decide +kernel
theorem dX1_readMaster_21 : decode cX1_readMaster 21 = .ok (.istore_n 3, 1) := by decide +kernel
theorem dX1_readMaster_22 : decode cX1_readMaster 22 = .ok (.aload_n 0, 1) := by decide +kernel
theorem dX1_readMaster_23 : decode cX1_readMaster 23 = .ok (.getfield 15, 3) := by decide +kernel
theorem dX1_readMaster_26 : decode cX1_readMaster 26 = .ok (.iconst (-1), 1) := by decide +kernel
theorem dX1_readMaster_27 : decode cX1_readMaster 27 = .ok (.if_icmp .ne 10, 3) := by decide +kernel
theorem dX1_readMaster_30 : decode cX1_readMaster 30 = .ok (.aload_n 1, 1) := by decide +kernel
theorem dX1_readMaster_31 : decode cX1_readMaster 31 = .ok (.getfield 57, 3) := by decide +kernel
theorem dX1_readMaster_34 : decode cX1_readMaster 34 = .ok (.iload_n 2, 1) := by decide +kernel
theorem dX1_readMaster_35 : decode cX1_readMaster 35 = .ok (.iload_n 3, 1) := by decide +kernel
theorem dX1_readMaster_36 : decode cX1_readMaster 36 = .ok (.iastore, 1) := by decide +kernel
theorem dX1_readMaster_37 : decode cX1_readMaster 37 = .ok (.return_, 1) := by decide +kernel
set_option maxHeartbeats 4000000 in
set_option maxRecDepth 100000 in
theorem g_X1_readMaster {E : fh_E} {M : fh_M} (C : fh_Cx E M cX1_readMaster 4 RX1 (none) rm_X1_readMaster) (Hr : fh_Rt E M) (k1 : Nat) (k2 : Nat) (σ3 : fh_S) : fh_Go E M 4 fh_vU 0 [(0, .ref (fh_ad E k1)), (1, .ref (fh_ad E k2))] [] σ3 (f_X1_readMaster k1 k2 σ3) := by
  have hok := fh_cok C
  refine go_ob ?_
  refine go_aload_n C 0 rfl rfl dX1_readMaster_0 ?_
  refine go_aload_n C 1 rfl rfl dX1_readMaster_1 ?_
  refine go_gi (ci := 0) (j := 9) C fh_in0 rfl (by decide) rfl q_47 dX1_readMaster_2 (fun v4 => ?_)
  refine go_iconst C (1 : Int32) dX1_readMaster_5 rfl ?_
  refine go_isub C dX1_readMaster_6 ?_
  refine go_callVI C (st := []) [.int (v4 - ((1 : Int32)))] (m_X1_takeNumber E _ hok k1 (v4 - ((1 : Int32))) σ3) (fun _ h => fh_ob_ok h) rfl rfl ⟨q_618, q_620, qs_14, q_4, q_621⟩ pd_X1_takeNumber rfl ⟨⟨Nat.le_of_ble_eq_true rfl, Nat.le_of_ble_eq_true rfl⟩, rfl, rfl⟩ (Nat.le_of_ble_eq_true rfl) dX1_readMaster_7 (fun r6 σ5 => ?_)
  refine go_istore_n C [(2, .int r6), (0, .ref (fh_ad E k1)), (1, .ref (fh_ad E k2))] rfl rfl (by decide) dX1_readMaster_10 ?_
  refine go_aload_n C 1 rfl rfl dX1_readMaster_11 ?_
  refine go_aload_n C 2 rfl rfl dX1_readMaster_12 ?_
  refine go_gi (ci := 0) (j := 9) C fh_in0 rfl (by decide) rfl q_47 dX1_readMaster_13 (fun v7 => ?_)
  refine go_iconst C (1 : Int32) dX1_readMaster_16 rfl ?_
  refine go_isub C dX1_readMaster_17 ?_
  refine go_callVI C (st := []) [.int (v7 - ((1 : Int32)))] (m_X1_takeNumber E _ hok k1 (v7 - ((1 : Int32))) σ5) (fun _ h => fh_ob_ok h) rfl rfl ⟨q_618, q_620, qs_14, q_4, q_621⟩ pd_X1_takeNumber rfl ⟨⟨Nat.le_of_ble_eq_true rfl, Nat.le_of_ble_eq_true rfl⟩, rfl, rfl⟩ (Nat.le_of_ble_eq_true rfl) dX1_readMaster_18 (fun r9 σ8 => ?_)
  refine go_istore_n C [(3, .int r9), (2, .int r6), (0, .ref (fh_ad E k1)), (1, .ref (fh_ad E k2))] rfl rfl (by decide) dX1_readMaster_21 ?_
  refine go_aload_n C 2 rfl rfl dX1_readMaster_22 ?_
  refine go_gi (ci := 1) (j := 5) C fh_in1 rfl (by decide) rfl q_104 dX1_readMaster_23 (fun v10 => ?_)
  refine go_iconst C (-1 : Int32) dX1_readMaster_26 rfl ?_
  refine go_icmp_ne (tgt := 37) C dX1_readMaster_27 rfl (fun _ => ?_) (fun _ => ?_)
  · exact go_vret C Hr rfl dX1_readMaster_37
  · refine go_aload_n C 3 rfl rfl dX1_readMaster_30 ?_
    refine go_gr (ci := 0) (j := 2) C fh_in0 rfl (by decide) rfl q_34 dX1_readMaster_31 (fun k11 => ?_)
    refine go_iload_n C 1 rfl rfl dX1_readMaster_34 ?_
    refine go_iload_n C 0 rfl rfl dX1_readMaster_35 ?_
    refine go_iast C dX1_readMaster_36 (fun σ12 => ?_)
    exact go_vret C Hr rfl dX1_readMaster_37
theorem m_X1_readMaster (E : fh_E) (l : Launch) (hok : fh_ok E) (k1 : Nat) (k2 : Nat) (σ3 : fh_S) : fh_Met E l yX1_readMaster cX1_readMaster 4 (none) rm_X1_readMaster fh_vU [.ref (fh_ad E k1), .ref (fh_ad E k2)] σ3 (f_X1_readMaster k1 k2 σ3) := fh_met hok (by decide +kernel) (Nat.le_of_ble_eq_true rfl) (fun M _ C Hr => g_X1_readMaster C Hr k1 k2 σ3)
def f_X1_readInto_J74 (k1 : Nat) (x7 : Int32) : fh_S → Option (Int32 × fh_S) := fun σ13 => (fh_gi σ13 1 k1 5).bind fun v14 => if v14 = ((-1 : Int32)) then some (x7, σ13) else (fh_gi σ13 1 k1 5).bind fun v15 => some (((-1 : Int32)) - v15, σ13)
def f_X1_readInto_J63 (k1 : Nat) (x7 : Int32) : fh_S → Option (Int32 × fh_S) := fun σ11 => (fh_gi σ11 1 k1 1).bind fun v12 => fh_jn (f_X1_readInto_J74 k1 x7) (fun j16 => if v12 = 0 then j16 σ11 else fh_cb (f_X1_refuse k1 σ11) fun _ σ17 => j16 σ17)
def f_X1_readInto_J50 (k1 : Nat) (r10 : Int32 → Int32 → fh_S → Option (Int32 × fh_S)) (x7 : Int32) : fh_S → Option (Int32 × fh_S) := fun σ21 => fh_cb (f_X1_takeSign k1 ((59 : Int32)) σ21) fun r23 σ22 => r10 (x7 + 1) r23 σ22
def f_X1_readInto_B18 (k1 : Nat) (k2 : Nat) (r10 : Int32 → Int32 → fh_S → Option (Int32 × fh_S)) : Int32 → Int32 → fh_S → Option (Int32 × fh_S) := fun x7 x8 σ9 => fh_jn (f_X1_readInto_J63 k1 x7) (fun j18 => if x8 = 0 then j18 σ9 else if ((120 : Int32)) < x7 then j18 σ9 else fh_cb (f_X1_takeWord k1 7 σ9) fun r20 σ19 => fh_jn (f_X1_readInto_J50 k1 r10 x7) (fun j24 => if r20 = 0 then fh_cb (f_X1_readDial k1 k2 σ19) fun _ σ25 => j24 σ25 else fh_cb (f_X1_readMaster k1 k2 σ19) fun _ σ26 => j24 σ26))
def f_X1_readInto (k1 : Nat) (k2 : Nat) (σ3 : fh_S) : Option (Int32 × fh_S) := fh_ob 1 k1 ((fh_pf σ3 1 k1 5 ((-1 : Int32))).bind fun σ4 => (fh_pf σ4 1 k1 3 ((0 : Int32))).bind fun σ5 => fh_cb (f_X1_findToken k1 σ5) fun _ σ6 => fh_fx (ρ := Int32 → Int32 → fh_S → Option (Int32 × fh_S)) (fun _ _ _ => none) (f_X1_readInto_B18 k1 k2) fh_fu ((0 : Int32)) ((1 : Int32)) σ6)
abbrev rm_X1_readInto : Room := { frames := 7, cells := 0, slots := 0, locals := 152 }
theorem pd_X1_readInto : yX1_readInto.cls ≠ "java/lang/invoke/MethodHandle" ∧ yX1_readInto.cls ≠ "java/lang/invoke/VarHandle" ∧ (parseMethodDescriptor yX1_readInto.desc).map (fun d => d.parameters.length) = some 1 := by decide +kernel
theorem dX1_readInto_0 : decode cX1_readInto 0 = .ok (.aload_n 0, 1) := by decide +kernel
theorem dX1_readInto_1 : decode cX1_readInto 1 = .ok (.iconst (-1), 1) := by decide +kernel
theorem dX1_readInto_2 : decode cX1_readInto 2 = .ok (.putfield 15, 3) := by decide +kernel
theorem dX1_readInto_5 : decode cX1_readInto 5 = .ok (.aload_n 0, 1) := by decide +kernel
theorem dX1_readInto_6 : decode cX1_readInto 6 = .ok (.iconst 0, 1) := by decide +kernel
theorem dX1_readInto_7 : decode cX1_readInto 7 = .ok (.putfield 19, 3) := by decide +kernel
theorem dX1_readInto_10 : decode cX1_readInto 10 = .ok (.aload_n 0, 1) := by decide +kernel
theorem dX1_readInto_11 : decode cX1_readInto 11 = .ok (.invokevirtual 22, 3) := by decide +kernel
theorem dX1_readInto_14 : decode cX1_readInto 14 = .ok (.iconst 0, 1) := by decide +kernel
theorem dX1_readInto_15 : decode cX1_readInto 15 = .ok (.istore_n 2, 1) := by decide +kernel
theorem dX1_readInto_16 : decode cX1_readInto 16 = .ok (.iconst 1, 1) := by decide +kernel
theorem dX1_readInto_17 : decode cX1_readInto 17 = .ok (.istore_n 3, 1) := by decide +kernel
theorem dX1_readInto_18 : decode cX1_readInto 18 = .ok (.iload_n 3, 1) := by decide +kernel
theorem dX1_readInto_19 : decode cX1_readInto 19 = .ok (.ifCond .eq 44, 3) := by decide +kernel
theorem dX1_readInto_22 : decode cX1_readInto 22 = .ok (.iload_n 2, 1) := by decide +kernel
theorem dX1_readInto_23 : decode cX1_readInto 23 = .ok (.bipush 120, 2) := by decide +kernel
theorem dX1_readInto_25 : decode cX1_readInto 25 = .ok (.if_icmp .gt 38, 3) := by decide +kernel
theorem dX1_readInto_28 : decode cX1_readInto 28 = .ok (.aload_n 0, 1) := by decide +kernel
theorem dX1_readInto_29 : decode cX1_readInto 29 = .ok (.ldc 25, 2) := by decide +kernel
theorem dX1_readInto_31 : decode cX1_readInto 31 = .ok (.invokevirtual 27, 3) := by decide +kernel
theorem dX1_readInto_34 : decode cX1_readInto 34 = .ok (.ifCond .eq 11, 3) := by decide +kernel
theorem dX1_readInto_37 : decode cX1_readInto 37 = .ok (.aload_n 0, 1) := by decide +kernel
theorem dX1_readInto_38 : decode cX1_readInto 38 = .ok (.aload_n 1, 1) := by decide +kernel
theorem dX1_readInto_39 : decode cX1_readInto 39 = .ok (.invokevirtual 31, 3) := by decide +kernel
theorem dX1_readInto_42 : decode cX1_readInto 42 = .ok (.goto 8, 3) := by decide +kernel
theorem dX1_readInto_45 : decode cX1_readInto 45 = .ok (.aload_n 0, 1) := by decide +kernel
theorem dX1_readInto_46 : decode cX1_readInto 46 = .ok (.aload_n 1, 1) := by decide +kernel
theorem dX1_readInto_47 : decode cX1_readInto 47 = .ok (.invokevirtual 35, 3) := by decide +kernel
theorem dX1_readInto_50 : decode cX1_readInto 50 = .ok (.iinc 2 1, 3) := by decide +kernel
theorem dX1_readInto_53 : decode cX1_readInto 53 = .ok (.aload_n 0, 1) := by decide +kernel
theorem dX1_readInto_54 : decode cX1_readInto 54 = .ok (.bipush 59, 2) := by decide +kernel
theorem dX1_readInto_56 : decode cX1_readInto 56 = .ok (.invokevirtual 38, 3) := by decide +kernel
theorem dX1_readInto_59 : decode cX1_readInto 59 = .ok (.istore_n 3, 1) := by decide +kernel
theorem dX1_readInto_60 : decode cX1_readInto 60 = .ok (.goto (-42), 3) := by decide +kernel
theorem dX1_readInto_63 : decode cX1_readInto 63 = .ok (.aload_n 0, 1) := by decide +kernel
theorem dX1_readInto_64 : decode cX1_readInto 64 = .ok (.getfield 42, 3) := by decide +kernel
theorem dX1_readInto_67 : decode cX1_readInto 67 = .ok (.ifCond .eq 7, 3) := by decide +kernel
theorem dX1_readInto_70 : decode cX1_readInto 70 = .ok (.aload_n 0, 1) := by decide +kernel
theorem dX1_readInto_71 : decode cX1_readInto 71 = .ok (.invokevirtual 45, 3) := by decide +kernel
theorem dX1_readInto_74 : decode cX1_readInto 74 = .ok (.aload_n 0, 1) := by decide +kernel
theorem dX1_readInto_75 : decode cX1_readInto 75 = .ok (.getfield 15, 3) := by decide +kernel
theorem dX1_readInto_78 : decode cX1_readInto 78 = .ok (.iconst (-1), 1) := by decide +kernel
theorem dX1_readInto_79 : decode cX1_readInto 79 = .ok (.if_icmp .ne 7, 3) := by decide +kernel
theorem dX1_readInto_82 : decode cX1_readInto 82 = .ok (.iload_n 2, 1) := by decide +kernel
theorem dX1_readInto_83 : decode cX1_readInto 83 = .ok (.goto 9, 3) := by decide +kernel
theorem dX1_readInto_86 : decode cX1_readInto 86 = .ok (.iconst (-1), 1) := by decide +kernel
theorem dX1_readInto_87 : decode cX1_readInto 87 = .ok (.aload_n 0, 1) := by decide +kernel
theorem dX1_readInto_88 : decode cX1_readInto 88 = .ok (.getfield 15, 3) := by decide +kernel
theorem dX1_readInto_91 : decode cX1_readInto 91 = .ok (.isub, 1) := by decide +kernel
theorem dX1_readInto_92 : decode cX1_readInto 92 = .ok (.ireturn, 1) := by decide +kernel
set_option maxHeartbeats 4000000 in
set_option maxRecDepth 100000 in
theorem g_X1_readInto {E : fh_E} {M : fh_M} (C : fh_Cx E M cX1_readInto 4 RX1 ((some FieldType.int)) rm_X1_readInto) (Hr : fh_Rt E M) (k1 : Nat) (k2 : Nat) (σ3 : fh_S) : fh_Go E M 4 fh_vI 0 [(0, .ref (fh_ad E k1)), (1, .ref (fh_ad E k2))] [] σ3 (f_X1_readInto k1 k2 σ3) := by
  have hok := fh_cok C
  refine go_ob ?_
  refine go_aload_n C 0 rfl rfl dX1_readInto_0 ?_
  refine go_iconst C (-1 : Int32) dX1_readInto_1 rfl ?_
  refine go_pf (ci := 1) (j := 5) C tyX1 tyX1_ok nmX1 fh_in1 rfl (by decide) rfl q_104 rfl rfl dX1_readInto_2 (fun σ4 => ?_)
  refine go_aload_n C 0 rfl rfl dX1_readInto_5 ?_
  refine go_iconst C (0 : Int32) dX1_readInto_6 rfl ?_
  refine go_pf (ci := 1) (j := 3) C tyX1 tyX1_ok nmX1 fh_in1 rfl (by decide) rfl q_102 rfl rfl dX1_readInto_7 (fun σ5 => ?_)
  refine go_aload_n C 0 rfl rfl dX1_readInto_10 ?_
  refine go_callVU C (st := []) [] (m_X1_findToken E _ hok k1 σ5) (fun _ h => fh_ob_ok h) rfl rfl ⟨q_534, q_536, qs_8, q_4, q_537⟩ pd_X1_findToken rfl ⟨⟨Nat.le_of_ble_eq_true rfl, Nat.le_of_ble_eq_true rfl⟩, rfl, rfl⟩ (Nat.le_of_ble_eq_true rfl) dX1_readInto_11 (fun _ σ6 => ?_)
  refine go_iconst C (0 : Int32) dX1_readInto_14 rfl ?_
  refine go_istore_n C [(2, .int ((0 : Int32))), (0, .ref (fh_ad E k1)), (1, .ref (fh_ad E k2))] rfl rfl (by decide) dX1_readInto_15 ?_
  refine go_iconst C (1 : Int32) dX1_readInto_16 rfl ?_
  refine go_istore_n C [(3, .int ((1 : Int32))), (2, .int ((0 : Int32))), (0, .ref (fh_ad E k1)), (1, .ref (fh_ad E k2))] rfl rfl (by decide) dX1_readInto_17 ?_
  refine go_lv [2, 3, 1, 0] (lv' := [(0, .ref (fh_ad E k1)), (1, .ref (fh_ad E k2)), (2, .int ((0 : Int32))), (3, .int ((1 : Int32)))]) rfl ?_
  refine go_fx (fun (r10 : Int32 → Int32 → fh_S → Option (Int32 × fh_S)) => ∀ (x7 : Int32) (x8 : Int32) (σ9 : fh_S), fh_Go E M 4 fh_vI 18 [(0, .ref (fh_ad E k1)), (1, .ref (fh_ad E k2)), (2, .int x7), (3, .int x8)] [] σ9 (r10 x7 x8 σ9)) ?_ ?_ fh_fu ((0 : Int32)) ((1 : Int32)) σ6
  · intro x7 x8 σ9
    exact go_none
  · intro r10 hr10 x7 x8 σ9
    refine go_iload_n C 3 rfl rfl dX1_readInto_18 ?_
    refine go_jn (fun (j18 : fh_S → Option (Int32 × fh_S)) => ∀ (σ11 : fh_S), fh_Go E M 4 fh_vI 63 [(0, .ref (fh_ad E k1)), (2, .int x7)] [] σ11 (j18 σ11)) ?_ (fun j18 hj18 => ?_)
    · intro σ11
      refine go_aload_n C 0 rfl rfl dX1_readInto_63 ?_
      refine go_gi (ci := 1) (j := 1) C fh_in1 rfl (by decide) rfl q_100 dX1_readInto_64 (fun v12 => ?_)
      refine go_jn (fun (j16 : fh_S → Option (Int32 × fh_S)) => ∀ (σ13 : fh_S), fh_Go E M 4 fh_vI 74 [(0, .ref (fh_ad E k1)), (2, .int x7)] [] σ13 (j16 σ13)) ?_ (fun j16 hj16 => ?_)
      · intro σ13
        refine go_aload_n C 0 rfl rfl dX1_readInto_74 ?_
        refine go_gi (ci := 1) (j := 5) C fh_in1 rfl (by decide) rfl q_104 dX1_readInto_75 (fun v14 => ?_)
        refine go_iconst C (-1 : Int32) dX1_readInto_78 rfl ?_
        refine go_icmp_ne (tgt := 86) C dX1_readInto_79 rfl (fun _ => ?_) (fun _ => ?_)
        · refine go_iconst C (-1 : Int32) dX1_readInto_86 rfl ?_
          refine go_aload_n C 0 rfl rfl dX1_readInto_87 ?_
          refine go_gi (ci := 1) (j := 5) C fh_in1 rfl (by decide) rfl q_104 dX1_readInto_88 (fun v15 => ?_)
          refine go_isub C dX1_readInto_91 ?_
          exact go_iret C Hr rfl dX1_readInto_92
        · refine go_iload_n C 1 rfl rfl dX1_readInto_82 ?_
          refine go_goto C 92 dX1_readInto_83 rfl ?_
          exact go_iret C Hr rfl dX1_readInto_92
      refine go_if_eq (tgt := 74) C dX1_readInto_67 rfl (fun _ => ?_) (fun _ => ?_)
      · exact hj16 σ11
      · refine go_aload_n C 0 rfl rfl dX1_readInto_70 ?_
        refine go_callVU C (st := []) [] (m_X1_refuse E _ hok k1 σ11) (fun _ h => fh_ob_ok h) rfl rfl ⟨q_622, q_624, qs_15, q_4, q_625⟩ pd_X1_refuse rfl ⟨⟨Nat.le_of_ble_eq_true rfl, Nat.le_of_ble_eq_true rfl⟩, rfl, rfl⟩ (Nat.le_of_ble_eq_true rfl) dX1_readInto_71 (fun _ σ17 => ?_)
        exact hj16 σ17
    refine go_if_eq (tgt := 63) C dX1_readInto_19 rfl (fun _ => ?_) (fun _ => ?_)
    · refine go_lv [0, 2] (lv' := [(0, .ref (fh_ad E k1)), (2, .int x7)]) rfl ?_
      exact hj18 σ9
    · refine go_iload_n C 2 rfl rfl dX1_readInto_22 ?_
      refine go_bipush C (120 : Int32) dX1_readInto_23 rfl ?_
      refine go_icmp_gt (tgt := 63) C dX1_readInto_25 rfl (fun _ => ?_) (fun _ => ?_)
      · refine go_lv [0, 2] (lv' := [(0, .ref (fh_ad E k1)), (2, .int x7)]) rfl ?_
        exact hj18 σ9
      · refine go_aload_n C 0 rfl rfl dX1_readInto_28 ?_
        refine go_ldcS C 7 rfl dX1_readInto_29 ?_
        refine go_callVI C (st := []) [.ref (fh_aK E 7)] (m_X1_takeWord E _ hok k1 7 σ9) (fun _ h => fh_ob_ok h) rfl rfl ⟨q_558, q_560, qs_11, q_4, q_561⟩ pd_X1_takeWord rfl ⟨⟨Nat.le_of_ble_eq_true rfl, Nat.le_of_ble_eq_true rfl⟩, rfl, rfl⟩ (Nat.le_of_ble_eq_true rfl) dX1_readInto_31 (fun r20 σ19 => ?_)
        refine go_jn (fun (j24 : fh_S → Option (Int32 × fh_S)) => ∀ (σ21 : fh_S), fh_Go E M 4 fh_vI 50 [(0, .ref (fh_ad E k1)), (1, .ref (fh_ad E k2)), (2, .int x7)] [] σ21 (j24 σ21)) ?_ (fun j24 hj24 => ?_)
        · intro σ21
          refine go_iinc C (x7 + 1) 2 [(2, .int (x7 + 1)), (0, .ref (fh_ad E k1)), (1, .ref (fh_ad E k2))] rfl rfl rfl (by decide) dX1_readInto_50 ?_
          refine go_aload_n C 1 rfl rfl dX1_readInto_53 ?_
          refine go_bipush C (59 : Int32) dX1_readInto_54 rfl ?_
          refine go_callVI C (st := []) [.int ((59 : Int32))] (m_X1_takeSign E _ hok k1 ((59 : Int32)) σ21) (fun _ h => fh_ob_ok h) rfl rfl ⟨q_650, q_652, qs_18, q_4, q_653⟩ pd_X1_takeSign rfl ⟨⟨Nat.le_of_ble_eq_true rfl, Nat.le_of_ble_eq_true rfl⟩, rfl, rfl⟩ (Nat.le_of_ble_eq_true rfl) dX1_readInto_56 (fun r23 σ22 => ?_)
          refine go_istore_n C [(3, .int r23), (2, .int (x7 + 1)), (0, .ref (fh_ad E k1)), (1, .ref (fh_ad E k2))] rfl rfl (by decide) dX1_readInto_59 ?_
          refine go_goto C 18 dX1_readInto_60 rfl ?_
          refine go_lv [2, 3, 1, 0] (lv' := [(0, .ref (fh_ad E k1)), (1, .ref (fh_ad E k2)), (2, .int (x7 + 1)), (3, .int r23)]) rfl ?_
          exact hr10 (x7 + 1) r23 σ22
        refine go_if_eq (tgt := 45) C dX1_readInto_34 rfl (fun _ => ?_) (fun _ => ?_)
        · refine go_aload_n C 0 rfl rfl dX1_readInto_45 ?_
          refine go_aload_n C 1 rfl rfl dX1_readInto_46 ?_
          refine go_callVU C (st := []) [.ref (fh_ad E k2)] (m_X1_readDial E _ hok k1 k2 σ19) (fun _ h => fh_ob_ok h) rfl rfl ⟨q_626, q_628, qs_16, q_4, q_629⟩ pd_X1_readDial rfl ⟨⟨Nat.le_of_ble_eq_true rfl, Nat.le_of_ble_eq_true rfl⟩, rfl, rfl⟩ (Nat.le_of_ble_eq_true rfl) dX1_readInto_47 (fun _ σ25 => ?_)
          refine go_lv [0, 1, 2] (lv' := [(0, .ref (fh_ad E k1)), (1, .ref (fh_ad E k2)), (2, .int x7)]) rfl ?_
          exact hj24 σ25
        · refine go_aload_n C 0 rfl rfl dX1_readInto_37 ?_
          refine go_aload_n C 1 rfl rfl dX1_readInto_38 ?_
          refine go_callVU C (st := []) [.ref (fh_ad E k2)] (m_X1_readMaster E _ hok k1 k2 σ19) (fun _ h => fh_ob_ok h) rfl rfl ⟨q_614, q_616, qs_13, q_4, q_617⟩ pd_X1_readMaster rfl ⟨⟨Nat.le_of_ble_eq_true rfl, Nat.le_of_ble_eq_true rfl⟩, rfl, rfl⟩ (Nat.le_of_ble_eq_true rfl) dX1_readInto_39 (fun _ σ26 => ?_)
          refine go_goto C 50 dX1_readInto_42 rfl ?_
          refine go_lv [0, 1, 2] (lv' := [(0, .ref (fh_ad E k1)), (1, .ref (fh_ad E k2)), (2, .int x7)]) rfl ?_
          exact hj24 σ26
theorem m_X1_readInto (E : fh_E) (l : Launch) (hok : fh_ok E) (k1 : Nat) (k2 : Nat) (σ3 : fh_S) : fh_Met E l yX1_readInto cX1_readInto 4 ((some FieldType.int)) rm_X1_readInto fh_vI [.ref (fh_ad E k1), .ref (fh_ad E k2)] σ3 (f_X1_readInto k1 k2 σ3) := fh_met hok (by decide +kernel) (Nat.le_of_ble_eq_true rfl) (fun M _ C Hr => g_X1_readInto C Hr k1 k2 σ3)
end
