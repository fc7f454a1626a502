section
-- ===== PART A: goes FIRST, ahead of the names: the tables' words, and 'selects' of the private methods out of them =====
/-- a private method of a class that the tables say can be made, by its rows of tables_1 -/
def lw_okq (q : MethodName × Nat) : Prop := (q.1.cls ≠ "java/lang/invoke/MethodHandle" ∧ q.1.cls ≠ "java/lang/invoke/VarHandle") ∧ Cond.instantiable q.1.cls q.2 ∈ tables_1 ∧ Cond.privateMethod q.1 ∈ tables_1 ∧ Cond.instanceMethod q.1 ∈ tables_1
theorem lw_p0 : lw_okq (⟨"FollowedHours", "tell", "(I)I"⟩, 8) := ⟨⟨by decide +kernel, by decide +kernel⟩, List.mem_of_getElem? (i := 15) (by decide +kernel), List.mem_of_getElem? (i := 177) (by decide +kernel), List.mem_of_getElem? (i := 178) (by decide +kernel)⟩
theorem lw_p1 : lw_okq (⟨"FollowedHours$Garden", "paceBehind", "(II)I"⟩, 12) := ⟨⟨by decide +kernel, by decide +kernel⟩, List.mem_of_getElem? (i := 23) (by decide +kernel), List.mem_of_getElem? (i := 205) (by decide +kernel), List.mem_of_getElem? (i := 206) (by decide +kernel)⟩
theorem lw_p2 : lw_okq (⟨"FollowedHours$Garden", "setWhere", "([II)I"⟩, 12) := ⟨⟨by decide +kernel, by decide +kernel⟩, List.mem_of_getElem? (i := 23) (by decide +kernel), List.mem_of_getElem? (i := 287) (by decide +kernel), List.mem_of_getElem? (i := 288) (by decide +kernel)⟩
theorem lw_p3 : lw_okq (⟨"FollowedHours", "tryTicks", "(I)V"⟩, 8) := ⟨⟨by decide +kernel, by decide +kernel⟩, List.mem_of_getElem? (i := 15) (by decide +kernel), List.mem_of_getElem? (i := 375) (by decide +kernel), List.mem_of_getElem? (i := 376) (by decide +kernel)⟩
theorem lw_p4 : lw_okq (⟨"FollowedHours", "distanceAs", "(III)I"⟩, 8) := ⟨⟨by decide +kernel, by decide +kernel⟩, List.mem_of_getElem? (i := 15) (by decide +kernel), List.mem_of_getElem? (i := 420) (by decide +kernel), List.mem_of_getElem? (i := 421) (by decide +kernel)⟩
theorem lw_p5 : lw_okq (⟨"FollowedHours", "findingOfSheet", "(I)I"⟩, 8) := ⟨⟨by decide +kernel, by decide +kernel⟩, List.mem_of_getElem? (i := 15) (by decide +kernel), List.mem_of_getElem? (i := 447) (by decide +kernel), List.mem_of_getElem? (i := 448) (by decide +kernel)⟩
theorem lw_p6 : lw_okq (⟨"FollowedHours", "triedShowsAs", "(LFollowedHours$Sheet;I)Z"⟩, 8) := ⟨⟨by decide +kernel, by decide +kernel⟩, List.mem_of_getElem? (i := 15) (by decide +kernel), List.mem_of_getElem? (i := 459) (by decide +kernel), List.mem_of_getElem? (i := 460) (by decide +kernel)⟩
theorem lw_p7 : lw_okq (⟨"FollowedHours", "stillIfStopped", "(II)I"⟩, 8) := ⟨⟨by decide +kernel, by decide +kernel⟩, List.mem_of_getElem? (i := 15) (by decide +kernel), List.mem_of_getElem? (i := 479) (by decide +kernel), List.mem_of_getElem? (i := 480) (by decide +kernel)⟩
theorem lw_p8 : lw_okq (⟨"FollowedHours$Reader", "findToken", "()V"⟩, 6) := ⟨⟨by decide +kernel, by decide +kernel⟩, List.mem_of_getElem? (i := 94) (by decide +kernel), List.mem_of_getElem? (i := 535) (by decide +kernel), List.mem_of_getElem? (i := 536) (by decide +kernel)⟩
theorem lw_p9 : lw_okq (⟨"FollowedHours$Reader", "readLetters", "()V"⟩, 6) := ⟨⟨by decide +kernel, by decide +kernel⟩, List.mem_of_getElem? (i := 94) (by decide +kernel), List.mem_of_getElem? (i := 546) (by decide +kernel), List.mem_of_getElem? (i := 547) (by decide +kernel)⟩
theorem lw_p10 : lw_okq (⟨"FollowedHours$Reader", "readDigits", "()V"⟩, 6) := ⟨⟨by decide +kernel, by decide +kernel⟩, List.mem_of_getElem? (i := 94) (by decide +kernel), List.mem_of_getElem? (i := 553) (by decide +kernel), List.mem_of_getElem? (i := 554) (by decide +kernel)⟩
theorem lw_p11 : lw_okq (⟨"FollowedHours$Reader", "takeWord", "(Ljava/lang/String;)Z"⟩, 6) := ⟨⟨by decide +kernel, by decide +kernel⟩, List.mem_of_getElem? (i := 94) (by decide +kernel), List.mem_of_getElem? (i := 559) (by decide +kernel), List.mem_of_getElem? (i := 560) (by decide +kernel)⟩
theorem lw_p12 : lw_okq (⟨"FollowedHours$Reader", "isWord", "(Ljava/lang/String;)Z"⟩, 6) := ⟨⟨by decide +kernel, by decide +kernel⟩, List.mem_of_getElem? (i := 94) (by decide +kernel), List.mem_of_getElem? (i := 563) (by decide +kernel), List.mem_of_getElem? (i := 564) (by decide +kernel)⟩
theorem lw_p13 : lw_okq (⟨"FollowedHours$Reader", "readMaster", "(LFollowedHours$Garden;)V"⟩, 6) := ⟨⟨by decide +kernel, by decide +kernel⟩, List.mem_of_getElem? (i := 94) (by decide +kernel), List.mem_of_getElem? (i := 615) (by decide +kernel), List.mem_of_getElem? (i := 616) (by decide +kernel)⟩
theorem lw_p14 : lw_okq (⟨"FollowedHours$Reader", "takeNumber", "(I)I"⟩, 6) := ⟨⟨by decide +kernel, by decide +kernel⟩, List.mem_of_getElem? (i := 94) (by decide +kernel), List.mem_of_getElem? (i := 619) (by decide +kernel), List.mem_of_getElem? (i := 620) (by decide +kernel)⟩
theorem lw_p15 : lw_okq (⟨"FollowedHours$Reader", "refuse", "()V"⟩, 6) := ⟨⟨by decide +kernel, by decide +kernel⟩, List.mem_of_getElem? (i := 94) (by decide +kernel), List.mem_of_getElem? (i := 623) (by decide +kernel), List.mem_of_getElem? (i := 624) (by decide +kernel)⟩
def lw_privs_1 : List (MethodName × Nat) := [(⟨"FollowedHours", "tell", "(I)I"⟩, 8), (⟨"FollowedHours$Garden", "paceBehind", "(II)I"⟩, 12), (⟨"FollowedHours$Garden", "setWhere", "([II)I"⟩, 12), (⟨"FollowedHours", "tryTicks", "(I)V"⟩, 8), (⟨"FollowedHours", "distanceAs", "(III)I"⟩, 8), (⟨"FollowedHours", "findingOfSheet", "(I)I"⟩, 8), (⟨"FollowedHours", "triedShowsAs", "(LFollowedHours$Sheet;I)Z"⟩, 8), (⟨"FollowedHours", "stillIfStopped", "(II)I"⟩, 8), (⟨"FollowedHours$Reader", "findToken", "()V"⟩, 6), (⟨"FollowedHours$Reader", "readLetters", "()V"⟩, 6), (⟨"FollowedHours$Reader", "readDigits", "()V"⟩, 6), (⟨"FollowedHours$Reader", "takeWord", "(Ljava/lang/String;)Z"⟩, 6), (⟨"FollowedHours$Reader", "isWord", "(Ljava/lang/String;)Z"⟩, 6), (⟨"FollowedHours$Reader", "readMaster", "(LFollowedHours$Garden;)V"⟩, 6), (⟨"FollowedHours$Reader", "takeNumber", "(I)I"⟩, 6), (⟨"FollowedHours$Reader", "refuse", "()V"⟩, 6)]
theorem lw_r1 : ∀ q ∈ lw_privs_1, lw_okq q := List.forall_mem_cons.mpr ⟨lw_p0, List.forall_mem_cons.mpr ⟨lw_p1, List.forall_mem_cons.mpr ⟨lw_p2, List.forall_mem_cons.mpr ⟨lw_p3, List.forall_mem_cons.mpr ⟨lw_p4, List.forall_mem_cons.mpr ⟨lw_p5, List.forall_mem_cons.mpr ⟨lw_p6, List.forall_mem_cons.mpr ⟨lw_p7, List.forall_mem_cons.mpr ⟨lw_p8, List.forall_mem_cons.mpr ⟨lw_p9, List.forall_mem_cons.mpr ⟨lw_p10, List.forall_mem_cons.mpr ⟨lw_p11, List.forall_mem_cons.mpr ⟨lw_p12, List.forall_mem_cons.mpr ⟨lw_p13, List.forall_mem_cons.mpr ⟨lw_p14, List.forall_mem_cons.mpr ⟨lw_p15, fun _ h => absurd h List.not_mem_nil⟩⟩⟩⟩⟩⟩⟩⟩⟩⟩⟩⟩⟩⟩⟩⟩
theorem lw_p16 : lw_okq (⟨"FollowedHours$Reader", "readDial", "(LFollowedHours$Garden;)V"⟩, 6) := ⟨⟨by decide +kernel, by decide +kernel⟩, List.mem_of_getElem? (i := 94) (by decide +kernel), List.mem_of_getElem? (i := 627) (by decide +kernel), List.mem_of_getElem? (i := 628) (by decide +kernel)⟩
theorem lw_p17 : lw_okq (⟨"FollowedHours$Reader", "kindOfWord", "()I"⟩, 6) := ⟨⟨by decide +kernel, by decide +kernel⟩, List.mem_of_getElem? (i := 94) (by decide +kernel), List.mem_of_getElem? (i := 631) (by decide +kernel), List.mem_of_getElem? (i := 632) (by decide +kernel)⟩
theorem lw_p18 : lw_okq (⟨"FollowedHours$Reader", "takeSign", "(C)Z"⟩, 6) := ⟨⟨by decide +kernel, by decide +kernel⟩, List.mem_of_getElem? (i := 94) (by decide +kernel), List.mem_of_getElem? (i := 651) (by decide +kernel), List.mem_of_getElem? (i := 652) (by decide +kernel)⟩
theorem lw_p19 : lw_okq (⟨"FollowedHoursModel", "finding", "(I)I"⟩, 21) := ⟨⟨by decide +kernel, by decide +kernel⟩, List.mem_of_getElem? (i := 732) (by decide +kernel), List.mem_of_getElem? (i := 822) (by decide +kernel), List.mem_of_getElem? (i := 823) (by decide +kernel)⟩
theorem lw_p20 : lw_okq (⟨"FollowedHoursModel", "comes", "(IIIIII)I"⟩, 21) := ⟨⟨by decide +kernel, by decide +kernel⟩, List.mem_of_getElem? (i := 732) (by decide +kernel), List.mem_of_getElem? (i := 827) (by decide +kernel), List.mem_of_getElem? (i := 828) (by decide +kernel)⟩
theorem lw_p21 : lw_okq (⟨"FollowedHoursModel", "isDial", "(I)Z"⟩, 21) := ⟨⟨by decide +kernel, by decide +kernel⟩, List.mem_of_getElem? (i := 732) (by decide +kernel), List.mem_of_getElem? (i := 838) (by decide +kernel), List.mem_of_getElem? (i := 839) (by decide +kernel)⟩
theorem lw_p22 : lw_okq (⟨"FollowedHoursModel", "pace", "(I)I"⟩, 21) := ⟨⟨by decide +kernel, by decide +kernel⟩, List.mem_of_getElem? (i := 732) (by decide +kernel), List.mem_of_getElem? (i := 842) (by decide +kernel), List.mem_of_getElem? (i := 843) (by decide +kernel)⟩
theorem lw_p23 : lw_okq (⟨"FollowedHoursModel", "plainPace", "(I)I"⟩, 21) := ⟨⟨by decide +kernel, by decide +kernel⟩, List.mem_of_getElem? (i := 732) (by decide +kernel), List.mem_of_getElem? (i := 846) (by decide +kernel), List.mem_of_getElem? (i := 847) (by decide +kernel)⟩
theorem lw_p24 : lw_okq (⟨"FollowedHoursModel", "dialIs", "(II)I"⟩, 21) := ⟨⟨by decide +kernel, by decide +kernel⟩, List.mem_of_getElem? (i := 732) (by decide +kernel), List.mem_of_getElem? (i := 850) (by decide +kernel), List.mem_of_getElem? (i := 851) (by decide +kernel)⟩
theorem lw_p25 : lw_okq (⟨"FollowedHoursModel", "isStopped", "(I)Z"⟩, 21) := ⟨⟨by decide +kernel, by decide +kernel⟩, List.mem_of_getElem? (i := 732) (by decide +kernel), List.mem_of_getElem? (i := 857) (by decide +kernel), List.mem_of_getElem? (i := 858) (by decide +kernel)⟩
theorem lw_p26 : lw_okq (⟨"FollowedHoursModel", "mayBe", "(II)Z"⟩, 21) := ⟨⟨by decide +kernel, by decide +kernel⟩, List.mem_of_getElem? (i := 732) (by decide +kernel), List.mem_of_getElem? (i := 867) (by decide +kernel), List.mem_of_getElem? (i := 868) (by decide +kernel)⟩
theorem lw_p27 : lw_okq (⟨"FollowedHoursModel", "become", "(II)I"⟩, 21) := ⟨⟨by decide +kernel, by decide +kernel⟩, List.mem_of_getElem? (i := 732) (by decide +kernel), List.mem_of_getElem? (i := 874) (by decide +kernel), List.mem_of_getElem? (i := 875) (by decide +kernel)⟩
theorem lw_p28 : lw_okq (⟨"FollowedHoursModel", "stops", "(II)Z"⟩, 21) := ⟨⟨by decide +kernel, by decide +kernel⟩, List.mem_of_getElem? (i := 732) (by decide +kernel), List.mem_of_getElem? (i := 889) (by decide +kernel), List.mem_of_getElem? (i := 890) (by decide +kernel)⟩
theorem lw_p29 : lw_okq (⟨"FollowedHoursModel", "ticks", "(I)V"⟩, 21) := ⟨⟨by decide +kernel, by decide +kernel⟩, List.mem_of_getElem? (i := 732) (by decide +kernel), List.mem_of_getElem? (i := 899) (by decide +kernel), List.mem_of_getElem? (i := 900) (by decide +kernel)⟩
theorem lw_p30 : lw_okq (⟨"FollowedHoursModel", "tick", "()V"⟩, 21) := ⟨⟨by decide +kernel, by decide +kernel⟩, List.mem_of_getElem? (i := 732) (by decide +kernel), List.mem_of_getElem? (i := 903) (by decide +kernel), List.mem_of_getElem? (i := 904) (by decide +kernel)⟩
theorem lw_p31 : lw_okq (⟨"FollowedHoursModel", "stoppedNow", "()I"⟩, 21) := ⟨⟨by decide +kernel, by decide +kernel⟩, List.mem_of_getElem? (i := 732) (by decide +kernel), List.mem_of_getElem? (i := 911) (by decide +kernel), List.mem_of_getElem? (i := 912) (by decide +kernel)⟩
def lw_privs_2 : List (MethodName × Nat) := [(⟨"FollowedHours$Reader", "readDial", "(LFollowedHours$Garden;)V"⟩, 6), (⟨"FollowedHours$Reader", "kindOfWord", "()I"⟩, 6), (⟨"FollowedHours$Reader", "takeSign", "(C)Z"⟩, 6), (⟨"FollowedHoursModel", "finding", "(I)I"⟩, 21), (⟨"FollowedHoursModel", "comes", "(IIIIII)I"⟩, 21), (⟨"FollowedHoursModel", "isDial", "(I)Z"⟩, 21), (⟨"FollowedHoursModel", "pace", "(I)I"⟩, 21), (⟨"FollowedHoursModel", "plainPace", "(I)I"⟩, 21), (⟨"FollowedHoursModel", "dialIs", "(II)I"⟩, 21), (⟨"FollowedHoursModel", "isStopped", "(I)Z"⟩, 21), (⟨"FollowedHoursModel", "mayBe", "(II)Z"⟩, 21), (⟨"FollowedHoursModel", "become", "(II)I"⟩, 21), (⟨"FollowedHoursModel", "stops", "(II)Z"⟩, 21), (⟨"FollowedHoursModel", "ticks", "(I)V"⟩, 21), (⟨"FollowedHoursModel", "tick", "()V"⟩, 21), (⟨"FollowedHoursModel", "stoppedNow", "()I"⟩, 21)]
theorem lw_r2 : ∀ q ∈ lw_privs_2, lw_okq q := List.forall_mem_cons.mpr ⟨lw_p16, List.forall_mem_cons.mpr ⟨lw_p17, List.forall_mem_cons.mpr ⟨lw_p18, List.forall_mem_cons.mpr ⟨lw_p19, List.forall_mem_cons.mpr ⟨lw_p20, List.forall_mem_cons.mpr ⟨lw_p21, List.forall_mem_cons.mpr ⟨lw_p22, List.forall_mem_cons.mpr ⟨lw_p23, List.forall_mem_cons.mpr ⟨lw_p24, List.forall_mem_cons.mpr ⟨lw_p25, List.forall_mem_cons.mpr ⟨lw_p26, List.forall_mem_cons.mpr ⟨lw_p27, List.forall_mem_cons.mpr ⟨lw_p28, List.forall_mem_cons.mpr ⟨lw_p29, List.forall_mem_cons.mpr ⟨lw_p30, List.forall_mem_cons.mpr ⟨lw_p31, fun _ h => absurd h List.not_mem_nil⟩⟩⟩⟩⟩⟩⟩⟩⟩⟩⟩⟩⟩⟩⟩⟩
theorem lw_p32 : lw_okq (⟨"FollowedHoursModel", "stillNow", "()I"⟩, 21) := ⟨⟨by decide +kernel, by decide +kernel⟩, List.mem_of_getElem? (i := 732) (by decide +kernel), List.mem_of_getElem? (i := 915) (by decide +kernel), List.mem_of_getElem? (i := 916) (by decide +kernel)⟩
theorem lw_p33 : lw_okq (⟨"FollowedHoursModel", "ownNow", "()I"⟩, 21) := ⟨⟨by decide +kernel, by decide +kernel⟩, List.mem_of_getElem? (i := 732) (by decide +kernel), List.mem_of_getElem? (i := 919) (by decide +kernel), List.mem_of_getElem? (i := 920) (by decide +kernel)⟩
theorem lw_p34 : lw_okq (⟨"FollowedHoursModel", "sumOf", "(I)I"⟩, 21) := ⟨⟨by decide +kernel, by decide +kernel⟩, List.mem_of_getElem? (i := 732) (by decide +kernel), List.mem_of_getElem? (i := 923) (by decide +kernel), List.mem_of_getElem? (i := 924) (by decide +kernel)⟩
theorem lw_p35 : lw_okq (⟨"FollowedHoursModel", "manyShow", "(I)I"⟩, 21) := ⟨⟨by decide +kernel, by decide +kernel⟩, List.mem_of_getElem? (i := 732) (by decide +kernel), List.mem_of_getElem? (i := 927) (by decide +kernel), List.mem_of_getElem? (i := 928) (by decide +kernel)⟩
theorem lw_p36 : lw_okq (⟨"FollowedHoursModel", "whoShow", "(I)I"⟩, 21) := ⟨⟨by decide +kernel, by decide +kernel⟩, List.mem_of_getElem? (i := 732) (by decide +kernel), List.mem_of_getElem? (i := 931) (by decide +kernel), List.mem_of_getElem? (i := 932) (by decide +kernel)⟩
theorem lw_p37 : lw_okq (⟨"FollowedHoursModel", "wayOf", "(I)I"⟩, 21) := ⟨⟨by decide +kernel, by decide +kernel⟩, List.mem_of_getElem? (i := 732) (by decide +kernel), List.mem_of_getElem? (i := 942) (by decide +kernel), List.mem_of_getElem? (i := 943) (by decide +kernel)⟩
theorem lw_p38 : lw_okq (⟨"FollowedHoursModel", "ringOf", "(I)I"⟩, 21) := ⟨⟨by decide +kernel, by decide +kernel⟩, List.mem_of_getElem? (i := 732) (by decide +kernel), List.mem_of_getElem? (i := 953) (by decide +kernel), List.mem_of_getElem? (i := 954) (by decide +kernel)⟩
theorem lw_p39 : lw_okq (⟨"FollowedHoursModel", "manyRings", "()I"⟩, 21) := ⟨⟨by decide +kernel, by decide +kernel⟩, List.mem_of_getElem? (i := 732) (by decide +kernel), List.mem_of_getElem? (i := 961) (by decide +kernel), List.mem_of_getElem? (i := 962) (by decide +kernel)⟩
theorem lw_p40 : lw_okq (⟨"FollowedHoursModel", "underOf", "(I)I"⟩, 21) := ⟨⟨by decide +kernel, by decide +kernel⟩, List.mem_of_getElem? (i := 732) (by decide +kernel), List.mem_of_getElem? (i := 973) (by decide +kernel), List.mem_of_getElem? (i := 974) (by decide +kernel)⟩
theorem lw_p41 : lw_okq (⟨"FollowedHoursModel", "orNone", "(I)I"⟩, 21) := ⟨⟨by decide +kernel, by decide +kernel⟩, List.mem_of_getElem? (i := 732) (by decide +kernel), List.mem_of_getElem? (i := 981) (by decide +kernel), List.mem_of_getElem? (i := 982) (by decide +kernel)⟩
theorem lw_p42 : lw_okq (⟨"FollowedHoursModel", "behind", "(III)I"⟩, 21) := ⟨⟨by decide +kernel, by decide +kernel⟩, List.mem_of_getElem? (i := 732) (by decide +kernel), List.mem_of_getElem? (i := 990) (by decide +kernel), List.mem_of_getElem? (i := 991) (by decide +kernel)⟩
theorem lw_p43 : lw_okq (⟨"FollowedHoursModel", "putBack", "(I)I"⟩, 21) := ⟨⟨by decide +kernel, by decide +kernel⟩, List.mem_of_getElem? (i := 732) (by decide +kernel), List.mem_of_getElem? (i := 997) (by decide +kernel), List.mem_of_getElem? (i := 998) (by decide +kernel)⟩
theorem lw_p44 : lw_okq (⟨"FollowedHoursModel", "isSettled", "()Z"⟩, 21) := ⟨⟨by decide +kernel, by decide +kernel⟩, List.mem_of_getElem? (i := 732) (by decide +kernel), List.mem_of_getElem? (i := 1021) (by decide +kernel), List.mem_of_getElem? (i := 1022) (by decide +kernel)⟩
theorem lw_p45 : lw_okq (⟨"FollowedHoursModel", "farIn", "(II)I"⟩, 21) := ⟨⟨by decide +kernel, by decide +kernel⟩, List.mem_of_getElem? (i := 732) (by decide +kernel), List.mem_of_getElem? (i := 1029) (by decide +kernel), List.mem_of_getElem? (i := 1030) (by decide +kernel)⟩
theorem lw_p46 : lw_okq (⟨"FollowedHoursModel", "mostShown", "()I"⟩, 21) := ⟨⟨by decide +kernel, by decide +kernel⟩, List.mem_of_getElem? (i := 732) (by decide +kernel), List.mem_of_getElem? (i := 1042) (by decide +kernel), List.mem_of_getElem? (i := 1043) (by decide +kernel)⟩
theorem lw_p47 : lw_okq (⟨"FollowedHoursModel", "rightBehind", "(I)I"⟩, 21) := ⟨⟨by decide +kernel, by decide +kernel⟩, List.mem_of_getElem? (i := 732) (by decide +kernel), List.mem_of_getElem? (i := 1050) (by decide +kernel), List.mem_of_getElem? (i := 1051) (by decide +kernel)⟩
def lw_privs_3 : List (MethodName × Nat) := [(⟨"FollowedHoursModel", "stillNow", "()I"⟩, 21), (⟨"FollowedHoursModel", "ownNow", "()I"⟩, 21), (⟨"FollowedHoursModel", "sumOf", "(I)I"⟩, 21), (⟨"FollowedHoursModel", "manyShow", "(I)I"⟩, 21), (⟨"FollowedHoursModel", "whoShow", "(I)I"⟩, 21), (⟨"FollowedHoursModel", "wayOf", "(I)I"⟩, 21), (⟨"FollowedHoursModel", "ringOf", "(I)I"⟩, 21), (⟨"FollowedHoursModel", "manyRings", "()I"⟩, 21), (⟨"FollowedHoursModel", "underOf", "(I)I"⟩, 21), (⟨"FollowedHoursModel", "orNone", "(I)I"⟩, 21), (⟨"FollowedHoursModel", "behind", "(III)I"⟩, 21), (⟨"FollowedHoursModel", "putBack", "(I)I"⟩, 21), (⟨"FollowedHoursModel", "isSettled", "()Z"⟩, 21), (⟨"FollowedHoursModel", "farIn", "(II)I"⟩, 21), (⟨"FollowedHoursModel", "mostShown", "()I"⟩, 21), (⟨"FollowedHoursModel", "rightBehind", "(I)I"⟩, 21)]
theorem lw_r3 : ∀ q ∈ lw_privs_3, lw_okq q := List.forall_mem_cons.mpr ⟨lw_p32, List.forall_mem_cons.mpr ⟨lw_p33, List.forall_mem_cons.mpr ⟨lw_p34, List.forall_mem_cons.mpr ⟨lw_p35, List.forall_mem_cons.mpr ⟨lw_p36, List.forall_mem_cons.mpr ⟨lw_p37, List.forall_mem_cons.mpr ⟨lw_p38, List.forall_mem_cons.mpr ⟨lw_p39, List.forall_mem_cons.mpr ⟨lw_p40, List.forall_mem_cons.mpr ⟨lw_p41, List.forall_mem_cons.mpr ⟨lw_p42, List.forall_mem_cons.mpr ⟨lw_p43, List.forall_mem_cons.mpr ⟨lw_p44, List.forall_mem_cons.mpr ⟨lw_p45, List.forall_mem_cons.mpr ⟨lw_p46, List.forall_mem_cons.mpr ⟨lw_p47, fun _ h => absurd h List.not_mem_nil⟩⟩⟩⟩⟩⟩⟩⟩⟩⟩⟩⟩⟩⟩⟩⟩
theorem lw_p48 : lw_okq (⟨"FollowedHoursModel", "lacks", "(I)I"⟩, 21) := ⟨⟨by decide +kernel, by decide +kernel⟩, List.mem_of_getElem? (i := 732) (by decide +kernel), List.mem_of_getElem? (i := 1062) (by decide +kernel), List.mem_of_getElem? (i := 1063) (by decide +kernel)⟩
theorem lw_p49 : lw_okq (⟨"FollowedHoursModel", "fitting", "(IIII)I"⟩, 21) := ⟨⟨by decide +kernel, by decide +kernel⟩, List.mem_of_getElem? (i := 732) (by decide +kernel), List.mem_of_getElem? (i := 1070) (by decide +kernel), List.mem_of_getElem? (i := 1071) (by decide +kernel)⟩
theorem lw_p50 : lw_okq (⟨"FollowedHoursModel", "isShownSo", "(II)Z"⟩, 21) := ⟨⟨by decide +kernel, by decide +kernel⟩, List.mem_of_getElem? (i := 732) (by decide +kernel), List.mem_of_getElem? (i := 1074) (by decide +kernel), List.mem_of_getElem? (i := 1075) (by decide +kernel)⟩
theorem lw_p51 : lw_okq (⟨"FollowedHoursModel", "stillWith", "(II)I"⟩, 21) := ⟨⟨by decide +kernel, by decide +kernel⟩, List.mem_of_getElem? (i := 732) (by decide +kernel), List.mem_of_getElem? (i := 1090) (by decide +kernel), List.mem_of_getElem? (i := 1091) (by decide +kernel)⟩
theorem lw_p52 : lw_okq (⟨"FollowedHoursModel", "drawn", "()I"⟩, 21) := ⟨⟨by decide +kernel, by decide +kernel⟩, List.mem_of_getElem? (i := 732) (by decide +kernel), List.mem_of_getElem? (i := 1106) (by decide +kernel), List.mem_of_getElem? (i := 1107) (by decide +kernel)⟩
theorem lw_p53 : lw_okq (⟨"FollowedHoursModel", "next", "()V"⟩, 21) := ⟨⟨by decide +kernel, by decide +kernel⟩, List.mem_of_getElem? (i := 732) (by decide +kernel), List.mem_of_getElem? (i := 1131) (by decide +kernel), List.mem_of_getElem? (i := 1132) (by decide +kernel)⟩
theorem lw_p54 : lw_okq (⟨"FollowedHoursModel", "byteAt", "(I)I"⟩, 21) := ⟨⟨by decide +kernel, by decide +kernel⟩, List.mem_of_getElem? (i := 732) (by decide +kernel), List.mem_of_getElem? (i := 1135) (by decide +kernel), List.mem_of_getElem? (i := 1136) (by decide +kernel)⟩
theorem lw_p55 : lw_okq (⟨"FollowedHoursModel", "readItem", "()V"⟩, 21) := ⟨⟨by decide +kernel, by decide +kernel⟩, List.mem_of_getElem? (i := 732) (by decide +kernel), List.mem_of_getElem? (i := 1139) (by decide +kernel), List.mem_of_getElem? (i := 1140) (by decide +kernel)⟩
theorem lw_p56 : lw_okq (⟨"FollowedHoursModel", "kindTold", "()I"⟩, 21) := ⟨⟨by decide +kernel, by decide +kernel⟩, List.mem_of_getElem? (i := 732) (by decide +kernel), List.mem_of_getElem? (i := 1143) (by decide +kernel), List.mem_of_getElem? (i := 1144) (by decide +kernel)⟩
theorem lw_p57 : lw_okq (⟨"FollowedHoursModel", "isWord", "(Ljava/lang/String;)Z"⟩, 21) := ⟨⟨by decide +kernel, by decide +kernel⟩, List.mem_of_getElem? (i := 732) (by decide +kernel), List.mem_of_getElem? (i := 1147) (by decide +kernel), List.mem_of_getElem? (i := 1148) (by decide +kernel)⟩
theorem lw_p58 : lw_okq (⟨"FollowedHoursModel", "must", "(Z)V"⟩, 21) := ⟨⟨by decide +kernel, by decide +kernel⟩, List.mem_of_getElem? (i := 732) (by decide +kernel), List.mem_of_getElem? (i := 1153) (by decide +kernel), List.mem_of_getElem? (i := 1154) (by decide +kernel)⟩
theorem lw_p59 : lw_okq (⟨"FollowedHoursModel", "isNext", "(Ljava/lang/String;)Z"⟩, 21) := ⟨⟨by decide +kernel, by decide +kernel⟩, List.mem_of_getElem? (i := 732) (by decide +kernel), List.mem_of_getElem? (i := 1158) (by decide +kernel), List.mem_of_getElem? (i := 1159) (by decide +kernel)⟩
theorem lw_p60 : lw_okq (⟨"FollowedHoursModel", "number", "(II)I"⟩, 21) := ⟨⟨by decide +kernel, by decide +kernel⟩, List.mem_of_getElem? (i := 732) (by decide +kernel), List.mem_of_getElem? (i := 1162) (by decide +kernel), List.mem_of_getElem? (i := 1163) (by decide +kernel)⟩
theorem lw_p61 : lw_okq (⟨"FollowedHoursModel", "goesTold", "()I"⟩, 21) := ⟨⟨by decide +kernel, by decide +kernel⟩, List.mem_of_getElem? (i := 732) (by decide +kernel), List.mem_of_getElem? (i := 1168) (by decide +kernel), List.mem_of_getElem? (i := 1169) (by decide +kernel)⟩
theorem lw_p62 : lw_okq (⟨"FollowedHoursModel", "item", "(IIIIII)V"⟩, 21) := ⟨⟨by decide +kernel, by decide +kernel⟩, List.mem_of_getElem? (i := 732) (by decide +kernel), List.mem_of_getElem? (i := 1174) (by decide +kernel), List.mem_of_getElem? (i := 1175) (by decide +kernel)⟩
theorem lw_p63 : lw_okq (⟨"FollowedHoursModel", "isToldSo", "(I)I"⟩, 21) := ⟨⟨by decide +kernel, by decide +kernel⟩, List.mem_of_getElem? (i := 732) (by decide +kernel), List.mem_of_getElem? (i := 1179) (by decide +kernel), List.mem_of_getElem? (i := 1180) (by decide +kernel)⟩
def lw_privs_4 : List (MethodName × Nat) := [(⟨"FollowedHoursModel", "lacks", "(I)I"⟩, 21), (⟨"FollowedHoursModel", "fitting", "(IIII)I"⟩, 21), (⟨"FollowedHoursModel", "isShownSo", "(II)Z"⟩, 21), (⟨"FollowedHoursModel", "stillWith", "(II)I"⟩, 21), (⟨"FollowedHoursModel", "drawn", "()I"⟩, 21), (⟨"FollowedHoursModel", "next", "()V"⟩, 21), (⟨"FollowedHoursModel", "byteAt", "(I)I"⟩, 21), (⟨"FollowedHoursModel", "readItem", "()V"⟩, 21), (⟨"FollowedHoursModel", "kindTold", "()I"⟩, 21), (⟨"FollowedHoursModel", "isWord", "(Ljava/lang/String;)Z"⟩, 21), (⟨"FollowedHoursModel", "must", "(Z)V"⟩, 21), (⟨"FollowedHoursModel", "isNext", "(Ljava/lang/String;)Z"⟩, 21), (⟨"FollowedHoursModel", "number", "(II)I"⟩, 21), (⟨"FollowedHoursModel", "goesTold", "()I"⟩, 21), (⟨"FollowedHoursModel", "item", "(IIIIII)V"⟩, 21), (⟨"FollowedHoursModel", "isToldSo", "(I)I"⟩, 21)]
theorem lw_r4 : ∀ q ∈ lw_privs_4, lw_okq q := List.forall_mem_cons.mpr ⟨lw_p48, List.forall_mem_cons.mpr ⟨lw_p49, List.forall_mem_cons.mpr ⟨lw_p50, List.forall_mem_cons.mpr ⟨lw_p51, List.forall_mem_cons.mpr ⟨lw_p52, List.forall_mem_cons.mpr ⟨lw_p53, List.forall_mem_cons.mpr ⟨lw_p54, List.forall_mem_cons.mpr ⟨lw_p55, List.forall_mem_cons.mpr ⟨lw_p56, List.forall_mem_cons.mpr ⟨lw_p57, List.forall_mem_cons.mpr ⟨lw_p58, List.forall_mem_cons.mpr ⟨lw_p59, List.forall_mem_cons.mpr ⟨lw_p60, List.forall_mem_cons.mpr ⟨lw_p61, List.forall_mem_cons.mpr ⟨lw_p62, List.forall_mem_cons.mpr ⟨lw_p63, fun _ h => absurd h List.not_mem_nil⟩⟩⟩⟩⟩⟩⟩⟩⟩⟩⟩⟩⟩⟩⟩⟩
def lw_privs : List (MethodName × Nat) := lw_privs_1 ++ (lw_privs_2 ++ (lw_privs_3 ++ (lw_privs_4)))
def lw_tbl : List Cond := k2_sels lw_privs ++ tables_1
theorem lw_privs_ok : ∀ q ∈ lw_privs, lw_okq q := by
  show ∀ q ∈ lw_privs_1 ++ (lw_privs_2 ++ (lw_privs_3 ++ (lw_privs_4))), lw_okq q
  exact List.forall_mem_append.mpr ⟨lw_r1, List.forall_mem_append.mpr ⟨lw_r2, List.forall_mem_append.mpr ⟨lw_r3, lw_r4⟩⟩⟩

/-- the words that every contract has: those of the tables that stay good over a call -/
def fh_T : List Cond := lw_tbl.filter goodWord
theorem fh_Tin {w : Cond} (i : Nat) (h : tables_1[i]? = some w) (hg : goodWord w = true) : w ∈ fh_T := List.mem_filter.mpr ⟨List.mem_append_right _ (List.mem_of_getElem? h), hg⟩
theorem fh_Tsel {w : Cond} (i : Nat) (h : (k2_sels lw_privs)[i]? = some w) (hg : goodWord w = true) : w ∈ fh_T := List.mem_filter.mpr ⟨List.mem_append_left _ (List.mem_of_getElem? h), hg⟩
def fh_w (y : MethodName) (cc : ByteArray) (n : Nat) (ret : Option FieldType) : List Cond := .code y cc n ret :: fh_T
theorem fh_good {w : Cond} (h : w ∈ fh_T) : (w.onTables && w.keeps) = true ∨ ∃ ty, w = .arrayClass ty := good_of_word (List.mem_filter.mp h).2
end
section
def RX0 : String := "FollowedHours$Garden"
def TX0 : u_T := fun k => match k with
  | 0 => ("FollowedHours$Garden", "kindOf", "[I", true)
  | 1 => ("FollowedHours$Garden", "hourOf", "[I", true)
  | 2 => ("FollowedHours$Garden", "masterOf", "[I", true)
  | 3 => ("FollowedHours$Garden", "goingOf", "[I", true)
  | 4 => ("FollowedHours$Garden", "stopOf", "[I", true)
  | 5 => ("FollowedHours$Garden", "mossOf", "[I", true)
  | 6 => ("FollowedHours$Garden", "spots", "[I", true)
  | 7 => ("FollowedHours$Garden", "nextGoing", "[I", true)
  | 8 => ("FollowedHours$Garden", "markedGoing", "[I", true)
  | 9 => ("FollowedHours$Garden", "size", "I", false)
  | 10 => ("FollowedHours$Garden", "tick", "I", false)
  | _ => ("FollowedHours$Garden", "drawn", "I", false)
def tyX0 : Nat → FieldType := fun k => match k with
  | 0 => .array .int
  | 1 => .array .int
  | 2 => .array .int
  | 3 => .array .int
  | 4 => .array .int
  | 5 => .array .int
  | 6 => .array .int
  | 7 => .array .int
  | 8 => .array .int
  | 9 => .int
  | 10 => .int
  | _ => .int
theorem nmX0 : ∀ a, a < 12 → ∀ b, b < 12 → a ≠ b → (TX0 a).2.1 ≠ (TX0 b).2.1 := by decide +kernel
theorem tyX0_ok : ∀ k, k < 12 → parseFieldDescriptor (TX0 k).2.2.1 = some (tyX0 k) := by decide +kernel
abbrev cX0_init : ByteArray := prog_2_method_1_code
def yX0_init : MethodName := ⟨RX0, "<init>", "()V"⟩
abbrev cX0_become : ByteArray := prog_2_method_2_code
def yX0_become : MethodName := ⟨RX0, "become", "(LFollowedHours$Garden;)V"⟩
abbrev cX0_has : ByteArray := prog_2_method_3_code
def yX0_has : MethodName := ⟨RX0, "has", "(I)Z"⟩
abbrev cX0_isFull : ByteArray := prog_2_method_4_code
def yX0_isFull : MethodName := ⟨RX0, "isFull", "()Z"⟩
abbrev cX0_add : ByteArray := prog_2_method_5_code
def yX0_add : MethodName := ⟨RX0, "add", "(I)I"⟩
abbrev cX0_rowOf : ByteArray := prog_2_method_6_code
def yX0_rowOf : MethodName := ⟨RX0, "rowOf", "(I)[I"⟩
abbrev cX0_mayBecome : ByteArray := prog_2_method_7_code
def yX0_mayBecome : MethodName := ⟨RX0, "mayBecome", "(II)Z"⟩
abbrev cX0_turn : ByteArray := prog_2_method_8_code
def yX0_turn : MethodName := ⟨RX0, "turn", "(II)V"⟩
abbrev cX0_freeze : ByteArray := prog_2_method_9_code
def yX0_freeze : MethodName := ⟨RX0, "freeze", "(I)Z"⟩
abbrev cX0_thaw : ByteArray := prog_2_method_10_code
def yX0_thaw : MethodName := ⟨RX0, "thaw", "(I)Z"⟩
abbrev cX0_draw : ByteArray := prog_2_method_11_code
def yX0_draw : MethodName := ⟨RX0, "draw", "()I"⟩
abbrev cX0_paceOf : ByteArray := prog_2_method_12_code
def yX0_paceOf : MethodName := ⟨RX0, "paceOf", "(I)I"⟩
abbrev cX0_paceBehind : ByteArray := prog_2_method_13_code
def yX0_paceBehind : MethodName := ⟨RX0, "paceBehind", "(II)I"⟩
abbrev cX0_lateOf : ByteArray := prog_2_method_14_code
def yX0_lateOf : MethodName := ⟨RX0, "lateOf", "(I)I"⟩
abbrev cX0_passTick : ByteArray := prog_2_method_15_code
def yX0_passTick : MethodName := ⟨RX0, "passTick", "()V"⟩
abbrev cX0_passTicks : ByteArray := prog_2_method_16_code
def yX0_passTicks : MethodName := ⟨RX0, "passTicks", "(I)V"⟩
abbrev cX0_passTicksForGoings : ByteArray := prog_2_method_17_code
def yX0_passTicksForGoings : MethodName := ⟨RX0, "passTicksForGoings", "(I)V"⟩
abbrev cX0_markGoings : ByteArray := prog_2_method_18_code
def yX0_markGoings : MethodName := ⟨RX0, "markGoings", "()V"⟩
abbrev cX0_goesAsMarked : ByteArray := prog_2_method_19_code
def yX0_goesAsMarked : MethodName := ⟨RX0, "goesAsMarked", "()Z"⟩
abbrev cX0_stoppedSet : ByteArray := prog_2_method_20_code
def yX0_stoppedSet : MethodName := ⟨RX0, "stoppedSet", "()I"⟩
abbrev cX0_stillSet : ByteArray := prog_2_method_21_code
def yX0_stillSet : MethodName := ⟨RX0, "stillSet", "()I"⟩
abbrev cX0_setWhere : ByteArray := prog_2_method_22_code
def yX0_setWhere : MethodName := ⟨RX0, "setWhere", "([II)I"⟩
abbrev cX0_ownMasterSet : ByteArray := prog_2_method_23_code
def yX0_ownMasterSet : MethodName := ⟨RX0, "ownMasterSet", "()I"⟩
abbrev cX0_sumOf : ByteArray := prog_2_method_24_code
def yX0_sumOf : MethodName := ⟨RX0, "sumOf", "([I)I"⟩
abbrev cX0_heldCount : ByteArray := prog_2_method_25_code
def yX0_heldCount : MethodName := ⟨RX0, "heldCount", "()I"⟩
abbrev cX0_alikeSet : ByteArray := prog_2_method_26_code
def yX0_alikeSet : MethodName := ⟨RX0, "alikeSet", "()I"⟩
abbrev cX0_waySet : ByteArray := prog_2_method_27_code
def yX0_waySet : MethodName := ⟨RX0, "waySet", "(I)I"⟩
abbrev cX0_ringSet : ByteArray := prog_2_method_28_code
def yX0_ringSet : MethodName := ⟨RX0, "ringSet", "(I)I"⟩
abbrev cX0_ringCount : ByteArray := prog_2_method_29_code
def yX0_ringCount : MethodName := ⟨RX0, "ringCount", "()I"⟩
abbrev cX0_stepsToRing : ByteArray := prog_2_method_30_code
def yX0_stepsToRing : MethodName := ⟨RX0, "stepsToRing", "(I)I"⟩
abbrev cX0_underSet : ByteArray := prog_2_method_31_code
def yX0_underSet : MethodName := ⟨RX0, "underSet", "(I)I"⟩
def RX1 : String := "FollowedHours$Reader"
def TX1 : u_T := fun k => match k with
  | 0 => ("FollowedHours$Reader", "tape", "LFollowedHours$Tape;", true)
  | 1 => ("FollowedHours$Reader", "sort", "I", false)
  | 2 => ("FollowedHours$Reader", "begin", "I", false)
  | 3 => ("FollowedHours$Reader", "end", "I", false)
  | 4 => ("FollowedHours$Reader", "value", "I", false)
  | _ => ("FollowedHours$Reader", "fault", "I", false)
def tyX1 : Nat → FieldType := fun k => match k with
  | 0 => .object "FollowedHours$Tape"
  | 1 => .int
  | 2 => .int
  | 3 => .int
  | 4 => .int
  | _ => .int
theorem nmX1 : ∀ a, a < 6 → ∀ b, b < 6 → a ≠ b → (TX1 a).2.1 ≠ (TX1 b).2.1 := by decide +kernel
theorem tyX1_ok : ∀ k, k < 6 → parseFieldDescriptor (TX1 k).2.2.1 = some (tyX1 k) := by decide +kernel
abbrev cX1_init : ByteArray := prog_3_method_1_code
def yX1_init : MethodName := ⟨RX1, "<init>", "(LFollowedHours$Tape;)V"⟩
abbrev cX1_readInto : ByteArray := prog_3_method_2_code
def yX1_readInto : MethodName := ⟨RX1, "readInto", "(LFollowedHours$Garden;)I"⟩
abbrev cX1_readMaster : ByteArray := prog_3_method_3_code
def yX1_readMaster : MethodName := ⟨RX1, "readMaster", "(LFollowedHours$Garden;)V"⟩
abbrev cX1_readDial : ByteArray := prog_3_method_4_code
def yX1_readDial : MethodName := ⟨RX1, "readDial", "(LFollowedHours$Garden;)V"⟩
abbrev cX1_refuse : ByteArray := prog_3_method_5_code
def yX1_refuse : MethodName := ⟨RX1, "refuse", "()V"⟩
abbrev cX1_takeWord : ByteArray := prog_3_method_6_code
def yX1_takeWord : MethodName := ⟨RX1, "takeWord", "(Ljava/lang/String;)Z"⟩
abbrev cX1_takeSign : ByteArray := prog_3_method_7_code
def yX1_takeSign : MethodName := ⟨RX1, "takeSign", "(C)Z"⟩
abbrev cX1_takeNumber : ByteArray := prog_3_method_8_code
def yX1_takeNumber : MethodName := ⟨RX1, "takeNumber", "(I)I"⟩
abbrev cX1_isWord : ByteArray := prog_3_method_9_code
def yX1_isWord : MethodName := ⟨RX1, "isWord", "(Ljava/lang/String;)Z"⟩
abbrev cX1_kindOfWord : ByteArray := prog_3_method_10_code
def yX1_kindOfWord : MethodName := ⟨RX1, "kindOfWord", "()I"⟩
abbrev cX1_wordOfKind : ByteArray := prog_3_method_11_code
def yX1_wordOfKind : MethodName := ⟨RX1, "wordOfKind", "(I)Ljava/lang/String;"⟩
abbrev cX1_findToken : ByteArray := prog_3_method_12_code
def yX1_findToken : MethodName := ⟨RX1, "findToken", "()V"⟩
abbrev cX1_readLetters : ByteArray := prog_3_method_13_code
def yX1_readLetters : MethodName := ⟨RX1, "readLetters", "()V"⟩
abbrev cX1_readDigits : ByteArray := prog_3_method_14_code
def yX1_readDigits : MethodName := ⟨RX1, "readDigits", "()V"⟩
abbrev cX1_isLetter : ByteArray := prog_3_method_15_code
def yX1_isLetter : MethodName := ⟨RX1, "isLetter", "(I)Z"⟩
abbrev cX1_isDigit : ByteArray := prog_3_method_16_code
def yX1_isDigit : MethodName := ⟨RX1, "isDigit", "(I)Z"⟩
def RX2 : String := "FollowedHours$Sheet"
def TX2 : u_T := fun k => match k with
  | 0 => ("FollowedHours$Sheet", "numbers", "[I", true)
  | 1 => ("FollowedHours$Sheet", "bits", "I", false)
  | _ => ("FollowedHours$Sheet", "size", "I", false)
def tyX2 : Nat → FieldType := fun k => match k with
  | 0 => .array .int
  | 1 => .int
  | _ => .int
theorem nmX2 : ∀ a, a < 3 → ∀ b, b < 3 → a ≠ b → (TX2 a).2.1 ≠ (TX2 b).2.1 := by decide +kernel
theorem tyX2_ok : ∀ k, k < 3 → parseFieldDescriptor (TX2 k).2.2.1 = some (tyX2 k) := by decide +kernel
abbrev cX2_init : ByteArray := prog_4_method_1_code
def yX2_init : MethodName := ⟨RX2, "<init>", "()V"⟩
abbrev cX2_isMissing : ByteArray := prog_4_method_2_code
def yX2_isMissing : MethodName := ⟨RX2, "isMissing", "()Z"⟩
abbrev cX2_layOut : ByteArray := prog_4_method_3_code
def yX2_layOut : MethodName := ⟨RX2, "layOut", "(II)V"⟩
abbrev cX2_put : ByteArray := prog_4_method_4_code
def yX2_put : MethodName := ⟨RX2, "put", "(II)V"⟩
abbrev cX2_hasPart : ByteArray := prog_4_method_5_code
def yX2_hasPart : MethodName := ⟨RX2, "hasPart", "(II)Z"⟩
def RX3 : String := "FollowedHours$Tape"
def TX3 : u_T := fun k => match k with
  | 0 => ("FollowedHours$Tape", "bytes", "[I", true)
  | _ => ("FollowedHours$Tape", "size", "I", false)
def tyX3 : Nat → FieldType := fun k => match k with
  | 0 => .array .int
  | _ => .int
theorem nmX3 : ∀ a, a < 2 → ∀ b, b < 2 → a ≠ b → (TX3 a).2.1 ≠ (TX3 b).2.1 := by decide +kernel
theorem tyX3_ok : ∀ k, k < 2 → parseFieldDescriptor (TX3 k).2.2.1 = some (tyX3 k) := by decide +kernel
abbrev cX3_init : ByteArray := prog_5_method_1_code
def yX3_init : MethodName := ⟨RX3, "<init>", "()V"⟩
abbrev cX3_append : ByteArray := prog_5_method_2_code
def yX3_append : MethodName := ⟨RX3, "append", "(I)V"⟩
abbrev cX3_byteAt : ByteArray := prog_5_method_3_code
def yX3_byteAt : MethodName := ⟨RX3, "byteAt", "(I)I"⟩
def RX4 : String := "FollowedHours"
def TX4 : u_T := fun k => match k with
  | 0 => ("FollowedHours", "garden", "LFollowedHours$Garden;", true)
  | 1 => ("FollowedHours", "kept", "LFollowedHours$Garden;", true)
  | 2 => ("FollowedHours", "trial", "LFollowedHours$Garden;", true)
  | 3 => ("FollowedHours", "tape", "LFollowedHours$Tape;", true)
  | 4 => ("FollowedHours", "reader", "LFollowedHours$Reader;", true)
  | 5 => ("FollowedHours", "sheets", "[LFollowedHours$Sheet;", true)
  | 6 => ("FollowedHours", "findings", "[I", true)
  | _ => ("FollowedHours", "isKept", "Z", false)
def tyX4 : Nat → FieldType := fun k => match k with
  | 0 => .object "FollowedHours$Garden"
  | 1 => .object "FollowedHours$Garden"
  | 2 => .object "FollowedHours$Garden"
  | 3 => .object "FollowedHours$Tape"
  | 4 => .object "FollowedHours$Reader"
  | 5 => .array (.object "FollowedHours$Sheet")
  | 6 => .array .int
  | _ => .boolean
theorem nmX4 : ∀ a, a < 8 → ∀ b, b < 8 → a ≠ b → (TX4 a).2.1 ≠ (TX4 b).2.1 := by decide +kernel
theorem tyX4_ok : ∀ k, k < 8 → parseFieldDescriptor (TX4 k).2.2.1 = some (tyX4 k) := by decide +kernel
abbrev cX4_init : ByteArray := prog_1_method_1_code
def yX4_init : MethodName := ⟨RX4, "<init>", "()V"⟩
abbrev cX4_dial : ByteArray := prog_1_method_2_code
def yX4_dial : MethodName := ⟨RX4, "dial", "(I)I"⟩
abbrev cX4_of : ByteArray := prog_1_method_3_code
def yX4_of : MethodName := ⟨RX4, "of", "(II)I"⟩
abbrev cX4_change : ByteArray := prog_1_method_4_code
def yX4_change : MethodName := ⟨RX4, "change", "(III)I"⟩
abbrev cX4_jog : ByteArray := prog_1_method_5_code
def yX4_jog : MethodName := ⟨RX4, "jog", "(II)I"⟩
abbrev cX4_stop : ByteArray := prog_1_method_6_code
def yX4_stop : MethodName := ⟨RX4, "stop", "(II)I"⟩
abbrev cX4_go : ByteArray := prog_1_method_7_code
def yX4_go : MethodName := ⟨RX4, "go", "(I)I"⟩
abbrev cX4_now : ByteArray := prog_1_method_8_code
def yX4_now : MethodName := ⟨RX4, "now", "(I)I"⟩
abbrev cX4_way : ByteArray := prog_1_method_9_code
def yX4_way : MethodName := ⟨RX4, "way", "(I)I"⟩
abbrev cX4_ring : ByteArray := prog_1_method_10_code
def yX4_ring : MethodName := ⟨RX4, "ring", "(I)I"⟩
abbrev cX4_rings : ByteArray := prog_1_method_11_code
def yX4_rings : MethodName := ⟨RX4, "rings", "()I"⟩
abbrev cX4_before : ByteArray := prog_1_method_12_code
def yX4_before : MethodName := ⟨RX4, "before", "(I)I"⟩
abbrev cX4_under : ByteArray := prog_1_method_13_code
def yX4_under : MethodName := ⟨RX4, "under", "(I)I"⟩
abbrev cX4_greatest : ByteArray := prog_1_method_14_code
def yX4_greatest : MethodName := ⟨RX4, "greatest", "()I"⟩
abbrev cX4_ahead : ByteArray := prog_1_method_15_code
def yX4_ahead : MethodName := ⟨RX4, "ahead", "(II)I"⟩
abbrev cX4_going : ByteArray := prog_1_method_16_code
def yX4_going : MethodName := ⟨RX4, "going", "(II)I"⟩
abbrev cX4_shows : ByteArray := prog_1_method_17_code
def yX4_shows : MethodName := ⟨RX4, "shows", "(II)I"⟩
abbrev cX4_meet : ByteArray := prog_1_method_18_code
def yX4_meet : MethodName := ⟨RX4, "meet", "(II)I"⟩
abbrev cX4_halts : ByteArray := prog_1_method_19_code
def yX4_halts : MethodName := ⟨RX4, "halts", "(I)I"⟩
abbrev cX4_settles : ByteArray := prog_1_method_20_code
def yX4_settles : MethodName := ⟨RX4, "settles", "()I"⟩
abbrev cX4_kindFor : ByteArray := prog_1_method_21_code
def yX4_kindFor : MethodName := ⟨RX4, "kindFor", "(II)I"⟩
abbrev cX4_jogFor : ByteArray := prog_1_method_22_code
def yX4_jogFor : MethodName := ⟨RX4, "jogFor", "(III)I"⟩
abbrev cX4_most : ByteArray := prog_1_method_23_code
def yX4_most : MethodName := ⟨RX4, "most", "()I"⟩
abbrev cX4_jogs : ByteArray := prog_1_method_24_code
def yX4_jogs : MethodName := ⟨RX4, "jogs", "(I)I"⟩
abbrev cX4_right : ByteArray := prog_1_method_25_code
def yX4_right : MethodName := ⟨RX4, "right", "(I)I"⟩
abbrev cX4_masters : ByteArray := prog_1_method_26_code
def yX4_masters : MethodName := ⟨RX4, "masters", "(II)I"⟩
abbrev cX4_kinds : ByteArray := prog_1_method_27_code
def yX4_kinds : MethodName := ⟨RX4, "kinds", "(II)I"⟩
abbrev cX4_masterFor : ByteArray := prog_1_method_28_code
def yX4_masterFor : MethodName := ⟨RX4, "masterFor", "(III)I"⟩
abbrev cX4_halted : ByteArray := prog_1_method_29_code
def yX4_halted : MethodName := ⟨RX4, "halted", "(II)I"⟩
abbrev cX4_weakest : ByteArray := prog_1_method_30_code
def yX4_weakest : MethodName := ⟨RX4, "weakest", "(I)I"⟩
abbrev cX4_cut : ByteArray := prog_1_method_31_code
def yX4_cut : MethodName := ⟨RX4, "cut", "(I)I"⟩
abbrev cX4_frosts : ByteArray := prog_1_method_32_code
def yX4_frosts : MethodName := ⟨RX4, "frosts", "(I)I"⟩
abbrev cX4_odds : ByteArray := prog_1_method_33_code
def yX4_odds : MethodName := ⟨RX4, "odds", "(II)J"⟩
abbrev cX4_seed : ByteArray := prog_1_method_34_code
def yX4_seed : MethodName := ⟨RX4, "seed", "(I)I"⟩
abbrev cX4_feed : ByteArray := prog_1_method_35_code
def yX4_feed : MethodName := ⟨RX4, "feed", "(II)I"⟩
abbrev cX4_wipe : ByteArray := prog_1_method_36_code
def yX4_wipe : MethodName := ⟨RX4, "wipe", "()I"⟩
abbrev cX4_text : ByteArray := prog_1_method_37_code
def yX4_text : MethodName := ⟨RX4, "text", "()I"⟩
abbrev cX4_hold : ByteArray := prog_1_method_38_code
def yX4_hold : MethodName := ⟨RX4, "hold", "(II)I"⟩
abbrev cX4_as : ByteArray := prog_1_method_39_code
def yX4_as : MethodName := ⟨RX4, "as", "(II)I"⟩
abbrev cX4_sheet : ByteArray := prog_1_method_40_code
def yX4_sheet : MethodName := ⟨RX4, "sheet", "(III)I"⟩
abbrev cX4_write : ByteArray := prog_1_method_41_code
def yX4_write : MethodName := ⟨RX4, "write", "(III)I"⟩
abbrev cX4_copy : ByteArray := prog_1_method_42_code
def yX4_copy : MethodName := ⟨RX4, "copy", "(IIIII)I"⟩
abbrev cX4_load : ByteArray := prog_1_method_43_code
def yX4_load : MethodName := ⟨RX4, "load", "(I)I"⟩
abbrev cX4_judge : ByteArray := prog_1_method_44_code
def yX4_judge : MethodName := ⟨RX4, "judge", "(I)I"⟩
abbrev cX4_image : ByteArray := prog_1_method_45_code
def yX4_image : MethodName := ⟨RX4, "image", "()I"⟩
abbrev cX4_undo : ByteArray := prog_1_method_46_code
def yX4_undo : MethodName := ⟨RX4, "undo", "()I"⟩
abbrev cX4_tear : ByteArray := prog_1_method_47_code
def yX4_tear : MethodName := ⟨RX4, "tear", "()I"⟩
abbrev cX4_count : ByteArray := prog_1_method_48_code
def yX4_count : MethodName := ⟨RX4, "count", "(I)I"⟩
abbrev cX4_status : ByteArray := prog_1_method_49_code
def yX4_status : MethodName := ⟨RX4, "status", "(I)I"⟩
abbrev cX4_tell : ByteArray := prog_1_method_50_code
def yX4_tell : MethodName := ⟨RX4, "tell", "(I)I"⟩
abbrev cX4_findingOfSheet : ByteArray := prog_1_method_51_code
def yX4_findingOfSheet : MethodName := ⟨RX4, "findingOfSheet", "(I)I"⟩
abbrev cX4_tryTicks : ByteArray := prog_1_method_52_code
def yX4_tryTicks : MethodName := ⟨RX4, "tryTicks", "(I)V"⟩
abbrev cX4_distanceAs : ByteArray := prog_1_method_53_code
def yX4_distanceAs : MethodName := ⟨RX4, "distanceAs", "(III)I"⟩
abbrev cX4_triedShowsAs : ByteArray := prog_1_method_54_code
def yX4_triedShowsAs : MethodName := ⟨RX4, "triedShowsAs", "(LFollowedHours$Sheet;I)Z"⟩
abbrev cX4_stillIfStopped : ByteArray := prog_1_method_55_code
def yX4_stillIfStopped : MethodName := ⟨RX4, "stillIfStopped", "(II)I"⟩
abbrev cX4_isWithin : ByteArray := prog_1_method_56_code
def yX4_isWithin : MethodName := ⟨RX4, "isWithin", "(III)Z"⟩
abbrev cX4_isKind : ByteArray := prog_1_method_57_code
def yX4_isKind : MethodName := ⟨RX4, "isKind", "(I)Z"⟩
abbrev cX4_isHour : ByteArray := prog_1_method_58_code
def yX4_isHour : MethodName := ⟨RX4, "isHour", "(I)Z"⟩
abbrev cX4_isSpot : ByteArray := prog_1_method_59_code
def yX4_isSpot : MethodName := ⟨RX4, "isSpot", "(I)Z"⟩
abbrev cX4_isSheet : ByteArray := prog_1_method_60_code
def yX4_isSheet : MethodName := ⟨RX4, "isSheet", "(I)Z"⟩
abbrev cX4_isIn : ByteArray := prog_1_method_61_code
def yX4_isIn : MethodName := ⟨RX4, "isIn", "(II)Z"⟩
abbrev cX4_lowestOf : ByteArray := prog_1_method_62_code
def yX4_lowestOf : MethodName := ⟨RX4, "lowestOf", "(I)I"⟩
abbrev cX4_roundHour : ByteArray := prog_1_method_63_code
def yX4_roundHour : MethodName := ⟨RX4, "roundHour", "(I)I"⟩
abbrev cX4_hoursBetween : ByteArray := prog_1_method_64_code
def yX4_hoursBetween : MethodName := ⟨RX4, "hoursBetween", "(II)I"⟩
abbrev cX4_isOfKind : ByteArray := prog_1_method_65_code
def yX4_isOfKind : MethodName := ⟨RX4, "isOfKind", "(II)Z"⟩
def RX5 : String := "FollowedHoursModel"
def TX5 : u_T := fun k => match k with
  | 0 => ("FollowedHoursModel", "now", "[I", true)
  | 1 => ("FollowedHoursModel", "kept", "[I", true)
  | 2 => ("FollowedHoursModel", "aside", "[I", true)
  | 3 => ("FollowedHoursModel", "isKept", "Z", false)
  | 4 => ("FollowedHoursModel", "found", "[I", true)
  | 5 => ("FollowedHoursModel", "goings", "[I", true)
  | 6 => ("FollowedHoursModel", "tape", "[I", true)
  | 7 => ("FollowedHoursModel", "taped", "I", false)
  | 8 => ("FollowedHoursModel", "begins", "I", false)
  | 9 => ("FollowedHoursModel", "ends", "I", false)
  | 10 => ("FollowedHoursModel", "sort", "I", false)
  | 11 => ("FollowedHoursModel", "value", "I", false)
  | 12 => ("FollowedHoursModel", "isWrong", "Z", false)
  | 13 => ("FollowedHoursModel", "kindNames", "[Ljava/lang/String;", true)
  | 14 => ("FollowedHoursModel", "items", "[I", true)
  | 15 => ("FollowedHoursModel", "itemMany", "I", false)
  | 16 => ("FollowedHoursModel", "dialThen", "I", false)
  | 17 => ("FollowedHoursModel", "widths", "[I", true)
  | 18 => ("FollowedHoursModel", "sizes", "[I", true)
  | 19 => ("FollowedHoursModel", "numbers", "[I", true)
  | _ => ("FollowedHoursModel", "moved", "[I", true)
def tyX5 : Nat → FieldType := fun k => match k with
  | 0 => .array .int
  | 1 => .array .int
  | 2 => .array .int
  | 3 => .boolean
  | 4 => .array .int
  | 5 => .array .int
  | 6 => .array .int
  | 7 => .int
  | 8 => .int
  | 9 => .int
  | 10 => .int
  | 11 => .int
  | 12 => .boolean
  | 13 => .array (.object "java/lang/String")
  | 14 => .array .int
  | 15 => .int
  | 16 => .int
  | 17 => .array .int
  | 18 => .array .int
  | 19 => .array .int
  | _ => .array .int
theorem nmX5 : ∀ a, a < 21 → ∀ b, b < 21 → a ≠ b → (TX5 a).2.1 ≠ (TX5 b).2.1 := by decide +kernel
theorem tyX5_ok : ∀ k, k < 21 → parseFieldDescriptor (TX5 k).2.2.1 = some (tyX5 k) := by decide +kernel
abbrev cX5_init : ByteArray := prog_7_method_1_code
def yX5_init : MethodName := ⟨RX5, "<init>", "()V"⟩
abbrev cX5_finding : ByteArray := prog_7_method_2_code
def yX5_finding : MethodName := ⟨RX5, "finding", "(I)I"⟩
abbrev cX5_within : ByteArray := prog_7_method_3_code
def yX5_within : MethodName := ⟨RX5, "within", "(III)Z"⟩
abbrev cX5_become : ByteArray := prog_7_method_4_code
def yX5_become : MethodName := ⟨RX5, "become", "(II)I"⟩
abbrev cX5_copyRow : ByteArray := prog_7_method_5_code
def yX5_copyRow : MethodName := ⟨RX5, "copyRow", "([I[I)V"⟩
abbrev cX5_putBack : ByteArray := prog_7_method_6_code
def yX5_putBack : MethodName := ⟨RX5, "putBack", "(I)I"⟩
abbrev cX5_orNone : ByteArray := prog_7_method_7_code
def yX5_orNone : MethodName := ⟨RX5, "orNone", "(I)I"⟩
abbrev cX5_has : ByteArray := prog_7_method_8_code
def yX5_has : MethodName := ⟨RX5, "has", "(II)Z"⟩
abbrev cX5_bits : ByteArray := prog_7_method_9_code
def yX5_bits : MethodName := ⟨RX5, "bits", "(I)I"⟩
abbrev cX5_isDial : ByteArray := prog_7_method_10_code
def yX5_isDial : MethodName := ⟨RX5, "isDial", "(I)Z"⟩
abbrev cX5_isKind : ByteArray := prog_7_method_11_code
def yX5_isKind : MethodName := ⟨RX5, "isKind", "(I)Z"⟩
abbrev cX5_isHour : ByteArray := prog_7_method_12_code
def yX5_isHour : MethodName := ⟨RX5, "isHour", "(I)Z"⟩
abbrev cX5_at : ByteArray := prog_7_method_13_code
def yX5_at : MethodName := ⟨RX5, "at", "(II)I"⟩
abbrev cX5_dialIs : ByteArray := prog_7_method_14_code
def yX5_dialIs : MethodName := ⟨RX5, "dialIs", "(II)I"⟩
abbrev cX5_isStopped : ByteArray := prog_7_method_15_code
def yX5_isStopped : MethodName := ⟨RX5, "isStopped", "(I)Z"⟩
abbrev cX5_comes : ByteArray := prog_7_method_16_code
def yX5_comes : MethodName := ⟨RX5, "comes", "(IIIIII)I"⟩
abbrev cX5_dial : ByteArray := prog_7_method_17_code
def yX5_dial : MethodName := ⟨RX5, "dial", "(I)I"⟩
abbrev cX5_above : ByteArray := prog_7_method_18_code
def yX5_above : MethodName := ⟨RX5, "above", "(I)I"⟩
abbrev cX5_isUnder : ByteArray := prog_7_method_19_code
def yX5_isUnder : MethodName := ⟨RX5, "isUnder", "(II)Z"⟩
abbrev cX5_late : ByteArray := prog_7_method_20_code
def yX5_late : MethodName := ⟨RX5, "late", "(I)I"⟩
abbrev cX5_plainPace : ByteArray := prog_7_method_21_code
def yX5_plainPace : MethodName := ⟨RX5, "plainPace", "(I)I"⟩
abbrev cX5_pace : ByteArray := prog_7_method_22_code
def yX5_pace : MethodName := ⟨RX5, "pace", "(I)I"⟩
abbrev cX5_of : ByteArray := prog_7_method_23_code
def yX5_of : MethodName := ⟨RX5, "of", "(II)I"⟩
abbrev cX5_mayBe : ByteArray := prog_7_method_24_code
def yX5_mayBe : MethodName := ⟨RX5, "mayBe", "(II)Z"⟩
abbrev cX5_change : ByteArray := prog_7_method_25_code
def yX5_change : MethodName := ⟨RX5, "change", "(III)I"⟩
abbrev cX5_round : ByteArray := prog_7_method_26_code
def yX5_round : MethodName := ⟨RX5, "round", "(I)I"⟩
abbrev cX5_jog : ByteArray := prog_7_method_27_code
def yX5_jog : MethodName := ⟨RX5, "jog", "(II)I"⟩
abbrev cX5_stops : ByteArray := prog_7_method_28_code
def yX5_stops : MethodName := ⟨RX5, "stops", "(II)Z"⟩
abbrev cX5_stop : ByteArray := prog_7_method_29_code
def yX5_stop : MethodName := ⟨RX5, "stop", "(II)I"⟩
abbrev cX5_tick : ByteArray := prog_7_method_30_code
def yX5_tick : MethodName := ⟨RX5, "tick", "()V"⟩
abbrev cX5_ticks : ByteArray := prog_7_method_31_code
def yX5_ticks : MethodName := ⟨RX5, "ticks", "(I)V"⟩
abbrev cX5_go : ByteArray := prog_7_method_32_code
def yX5_go : MethodName := ⟨RX5, "go", "(I)I"⟩
abbrev cX5_stoppedNow : ByteArray := prog_7_method_33_code
def yX5_stoppedNow : MethodName := ⟨RX5, "stoppedNow", "()I"⟩
abbrev cX5_stillNow : ByteArray := prog_7_method_34_code
def yX5_stillNow : MethodName := ⟨RX5, "stillNow", "()I"⟩
abbrev cX5_ownNow : ByteArray := prog_7_method_35_code
def yX5_ownNow : MethodName := ⟨RX5, "ownNow", "()I"⟩
abbrev cX5_sumOf : ByteArray := prog_7_method_36_code
def yX5_sumOf : MethodName := ⟨RX5, "sumOf", "(I)I"⟩
abbrev cX5_manyShow : ByteArray := prog_7_method_37_code
def yX5_manyShow : MethodName := ⟨RX5, "manyShow", "(I)I"⟩
abbrev cX5_whoShow : ByteArray := prog_7_method_38_code
def yX5_whoShow : MethodName := ⟨RX5, "whoShow", "(I)I"⟩
abbrev cX5_now : ByteArray := prog_7_method_39_code
def yX5_now : MethodName := ⟨RX5, "now", "(I)I"⟩
abbrev cX5_wayOf : ByteArray := prog_7_method_40_code
def yX5_wayOf : MethodName := ⟨RX5, "wayOf", "(I)I"⟩
abbrev cX5_ringOf : ByteArray := prog_7_method_41_code
def yX5_ringOf : MethodName := ⟨RX5, "ringOf", "(I)I"⟩
abbrev cX5_way : ByteArray := prog_7_method_42_code
def yX5_way : MethodName := ⟨RX5, "way", "(I)I"⟩
abbrev cX5_ring : ByteArray := prog_7_method_43_code
def yX5_ring : MethodName := ⟨RX5, "ring", "(I)I"⟩
abbrev cX5_manyRings : ByteArray := prog_7_method_44_code
def yX5_manyRings : MethodName := ⟨RX5, "manyRings", "()I"⟩
abbrev cX5_rings : ByteArray := prog_7_method_45_code
def yX5_rings : MethodName := ⟨RX5, "rings", "()I"⟩
abbrev cX5_before : ByteArray := prog_7_method_46_code
def yX5_before : MethodName := ⟨RX5, "before", "(I)I"⟩
abbrev cX5_underOf : ByteArray := prog_7_method_47_code
def yX5_underOf : MethodName := ⟨RX5, "underOf", "(I)I"⟩
abbrev cX5_under : ByteArray := prog_7_method_48_code
def yX5_under : MethodName := ⟨RX5, "under", "(I)I"⟩
abbrev cX5_greatest : ByteArray := prog_7_method_49_code
def yX5_greatest : MethodName := ⟨RX5, "greatest", "()I"⟩
abbrev cX5_behind : ByteArray := prog_7_method_50_code
def yX5_behind : MethodName := ⟨RX5, "behind", "(III)I"⟩
abbrev cX5_ahead : ByteArray := prog_7_method_51_code
def yX5_ahead : MethodName := ⟨RX5, "ahead", "(II)I"⟩
abbrev cX5_going : ByteArray := prog_7_method_52_code
def yX5_going : MethodName := ⟨RX5, "going", "(II)I"⟩
abbrev cX5_shows : ByteArray := prog_7_method_53_code
def yX5_shows : MethodName := ⟨RX5, "shows", "(II)I"⟩
abbrev cX5_meet : ByteArray := prog_7_method_54_code
def yX5_meet : MethodName := ⟨RX5, "meet", "(II)I"⟩
abbrev cX5_halts : ByteArray := prog_7_method_55_code
def yX5_halts : MethodName := ⟨RX5, "halts", "(I)I"⟩
abbrev cX5_isSettled : ByteArray := prog_7_method_56_code
def yX5_isSettled : MethodName := ⟨RX5, "isSettled", "()Z"⟩
abbrev cX5_settles : ByteArray := prog_7_method_57_code
def yX5_settles : MethodName := ⟨RX5, "settles", "()I"⟩
abbrev cX5_farIn : ByteArray := prog_7_method_58_code
def yX5_farIn : MethodName := ⟨RX5, "farIn", "(II)I"⟩
abbrev cX5_kindFor : ByteArray := prog_7_method_59_code
def yX5_kindFor : MethodName := ⟨RX5, "kindFor", "(II)I"⟩
abbrev cX5_jogFor : ByteArray := prog_7_method_60_code
def yX5_jogFor : MethodName := ⟨RX5, "jogFor", "(III)I"⟩
abbrev cX5_mostShown : ByteArray := prog_7_method_61_code
def yX5_mostShown : MethodName := ⟨RX5, "mostShown", "()I"⟩
abbrev cX5_most : ByteArray := prog_7_method_62_code
def yX5_most : MethodName := ⟨RX5, "most", "()I"⟩
abbrev cX5_rightBehind : ByteArray := prog_7_method_63_code
def yX5_rightBehind : MethodName := ⟨RX5, "rightBehind", "(I)I"⟩
abbrev cX5_jogs : ByteArray := prog_7_method_64_code
def yX5_jogs : MethodName := ⟨RX5, "jogs", "(I)I"⟩
abbrev cX5_right : ByteArray := prog_7_method_65_code
def yX5_right : MethodName := ⟨RX5, "right", "(I)I"⟩
abbrev cX5_lacks : ByteArray := prog_7_method_66_code
def yX5_lacks : MethodName := ⟨RX5, "lacks", "(I)I"⟩
abbrev cX5_isShownSo : ByteArray := prog_7_method_67_code
def yX5_isShownSo : MethodName := ⟨RX5, "isShownSo", "(II)Z"⟩
abbrev cX5_fitting : ByteArray := prog_7_method_68_code
def yX5_fitting : MethodName := ⟨RX5, "fitting", "(IIII)I"⟩
abbrev cX5_masters : ByteArray := prog_7_method_69_code
def yX5_masters : MethodName := ⟨RX5, "masters", "(II)I"⟩
abbrev cX5_kinds : ByteArray := prog_7_method_70_code
def yX5_kinds : MethodName := ⟨RX5, "kinds", "(II)I"⟩
abbrev cX5_masterFor : ByteArray := prog_7_method_71_code
def yX5_masterFor : MethodName := ⟨RX5, "masterFor", "(III)I"⟩
abbrev cX5_stillWith : ByteArray := prog_7_method_72_code
def yX5_stillWith : MethodName := ⟨RX5, "stillWith", "(II)I"⟩
abbrev cX5_halted : ByteArray := prog_7_method_73_code
def yX5_halted : MethodName := ⟨RX5, "halted", "(II)I"⟩
abbrev cX5_weakest : ByteArray := prog_7_method_74_code
def yX5_weakest : MethodName := ⟨RX5, "weakest", "(I)I"⟩
abbrev cX5_cut : ByteArray := prog_7_method_75_code
def yX5_cut : MethodName := ⟨RX5, "cut", "(I)I"⟩
abbrev cX5_drawn : ByteArray := prog_7_method_76_code
def yX5_drawn : MethodName := ⟨RX5, "drawn", "()I"⟩
abbrev cX5_frosts : ByteArray := prog_7_method_77_code
def yX5_frosts : MethodName := ⟨RX5, "frosts", "(I)I"⟩
abbrev cX5_odds : ByteArray := prog_7_method_78_code
def yX5_odds : MethodName := ⟨RX5, "odds", "(II)J"⟩
abbrev cX5_seed : ByteArray := prog_7_method_79_code
def yX5_seed : MethodName := ⟨RX5, "seed", "(I)I"⟩
abbrev cX5_feed : ByteArray := prog_7_method_80_code
def yX5_feed : MethodName := ⟨RX5, "feed", "(II)I"⟩
abbrev cX5_wipe : ByteArray := prog_7_method_81_code
def yX5_wipe : MethodName := ⟨RX5, "wipe", "()I"⟩
abbrev cX5_byteAt : ByteArray := prog_7_method_82_code
def yX5_byteAt : MethodName := ⟨RX5, "byteAt", "(I)I"⟩
abbrev cX5_next : ByteArray := prog_7_method_83_code
def yX5_next : MethodName := ⟨RX5, "next", "()V"⟩
abbrev cX5_isWord : ByteArray := prog_7_method_84_code
def yX5_isWord : MethodName := ⟨RX5, "isWord", "(Ljava/lang/String;)Z"⟩
abbrev cX5_must : ByteArray := prog_7_method_85_code
def yX5_must : MethodName := ⟨RX5, "must", "(Z)V"⟩
abbrev cX5_number : ByteArray := prog_7_method_86_code
def yX5_number : MethodName := ⟨RX5, "number", "(II)I"⟩
abbrev cX5_item : ByteArray := prog_7_method_87_code
def yX5_item : MethodName := ⟨RX5, "item", "(IIIIII)V"⟩
abbrev cX5_kindTold : ByteArray := prog_7_method_88_code
def yX5_kindTold : MethodName := ⟨RX5, "kindTold", "()I"⟩
abbrev cX5_isNext : ByteArray := prog_7_method_89_code
def yX5_isNext : MethodName := ⟨RX5, "isNext", "(Ljava/lang/String;)Z"⟩
abbrev cX5_goesTold : ByteArray := prog_7_method_90_code
def yX5_goesTold : MethodName := ⟨RX5, "goesTold", "()I"⟩
abbrev cX5_readItem : ByteArray := prog_7_method_91_code
def yX5_readItem : MethodName := ⟨RX5, "readItem", "()V"⟩
abbrev cX5_isToldSo : ByteArray := prog_7_method_92_code
def yX5_isToldSo : MethodName := ⟨RX5, "isToldSo", "(I)I"⟩
abbrev cX5_text : ByteArray := prog_7_method_93_code
def yX5_text : MethodName := ⟨RX5, "text", "()I"⟩
abbrev cX5_isSpot : ByteArray := prog_7_method_94_code
def yX5_isSpot : MethodName := ⟨RX5, "isSpot", "(I)Z"⟩
abbrev cX5_hold : ByteArray := prog_7_method_95_code
def yX5_hold : MethodName := ⟨RX5, "hold", "(II)I"⟩
abbrev cX5_as : ByteArray := prog_7_method_96_code
def yX5_as : MethodName := ⟨RX5, "as", "(II)I"⟩
abbrev cX5_isSheet : ByteArray := prog_7_method_97_code
def yX5_isSheet : MethodName := ⟨RX5, "isSheet", "(I)Z"⟩
abbrev cX5_cutTo : ByteArray := prog_7_method_98_code
def yX5_cutTo : MethodName := ⟨RX5, "cutTo", "(II)I"⟩
abbrev cX5_sheet : ByteArray := prog_7_method_99_code
def yX5_sheet : MethodName := ⟨RX5, "sheet", "(III)I"⟩
abbrev cX5_write : ByteArray := prog_7_method_100_code
def yX5_write : MethodName := ⟨RX5, "write", "(III)I"⟩
abbrev cX5_copy : ByteArray := prog_7_method_101_code
def yX5_copy : MethodName := ⟨RX5, "copy", "(IIIII)I"⟩
abbrev cX5_load : ByteArray := prog_7_method_102_code
def yX5_load : MethodName := ⟨RX5, "load", "(I)I"⟩
abbrev cX5_judge : ByteArray := prog_7_method_103_code
def yX5_judge : MethodName := ⟨RX5, "judge", "(I)I"⟩
abbrev cX5_image : ByteArray := prog_7_method_104_code
def yX5_image : MethodName := ⟨RX5, "image", "()I"⟩
abbrev cX5_undo : ByteArray := prog_7_method_105_code
def yX5_undo : MethodName := ⟨RX5, "undo", "()I"⟩
abbrev cX5_tear : ByteArray := prog_7_method_106_code
def yX5_tear : MethodName := ⟨RX5, "tear", "()I"⟩
abbrev cX5_count : ByteArray := prog_7_method_107_code
def yX5_count : MethodName := ⟨RX5, "count", "(I)I"⟩
abbrev cX5_status : ByteArray := prog_7_method_108_code
def yX5_status : MethodName := ⟨RX5, "status", "(I)I"⟩
def RJ6 : String := "java/lang/Integer"
abbrev cJ6_numberOfTrailingZeros_0f7a4 : ByteArray := prog_8_method_48_code
def yJ6_numberOfTrailingZeros_0f7a4 : MethodName := ⟨RJ6, "numberOfTrailingZeros", "(I)I"⟩
abbrev cJ6_bitCount_0f7a4 : ByteArray := prog_8_method_49_code
def yJ6_bitCount_0f7a4 : MethodName := ⟨RJ6, "bitCount", "(I)I"⟩
def RJ9 : String := "java/lang/Math"
abbrev cJ9_floorMod_7cf53 : ByteArray := prog_9_method_50_code
def yJ9_floorMod_7cf53 : MethodName := ⟨RJ9, "floorMod", "(II)I"⟩
abbrev cJ9_abs_0f7a4 : ByteArray := prog_9_method_59_code
def yJ9_abs_0f7a4 : MethodName := ⟨RJ9, "abs", "(I)I"⟩
abbrev cJ9_max_7cf53 : ByteArray := prog_9_method_65_code
def yJ9_max_7cf53 : MethodName := ⟨RJ9, "max", "(II)I"⟩
abbrev cJ9_min_7cf53 : ByteArray := prog_9_method_69_code
def yJ9_min_7cf53 : MethodName := ⟨RJ9, "min", "(II)I"⟩
def RJ0 : String := "java/lang/String"
abbrev cJ0_length_8abf5 : ByteArray := prog_10_method_54_code
def yJ0_length_8abf5 : MethodName := ⟨RJ0, "length", "()I"⟩
abbrev cJ0_charAt_5068e : ByteArray := prog_10_method_56_code
def yJ0_charAt_5068e : MethodName := ⟨RJ0, "charAt", "(I)C"⟩
abbrev cJ0_coder_7d493 : ByteArray := prog_10_method_152_code
def yJ0_coder_7d493 : MethodName := ⟨RJ0, "coder", "()B"⟩
abbrev cJ0_isLatin1_aae02 : ByteArray := prog_10_method_154_code
def yJ0_isLatin1_aae02 : MethodName := ⟨RJ0, "isLatin1", "()Z"⟩
abbrev cJ0_checkIndex_df160 : ByteArray := prog_10_method_155_code
def yJ0_checkIndex_df160 : MethodName := ⟨RJ0, "checkIndex", "(II)V"⟩
def RJ1 : String := "java/lang/StringLatin1"
abbrev cJ1_charAt_3b067 : ByteArray := prog_11_method_2_code
def yJ1_charAt_3b067 : MethodName := ⟨RJ1, "charAt", "([BI)C"⟩
def RJ2 : String := "java/lang/StringUTF16"
abbrev cJ2_getChar_3b067 : ByteArray := prog_12_method_5_code
def yJ2_getChar_3b067 : MethodName := ⟨RJ2, "getChar", "([BI)C"⟩
abbrev cJ2_length_9d52b : ByteArray := prog_12_method_6_code
def yJ2_length_9d52b : MethodName := ⟨RJ2, "length", "([B)I"⟩
abbrev cJ2_charAt_3b067 : ByteArray := prog_12_method_83_code
def yJ2_charAt_3b067 : MethodName := ⟨RJ2, "charAt", "([BI)C"⟩
abbrev cJ2_checkIndex_2214a : ByteArray := prog_12_method_91_code
def yJ2_checkIndex_2214a : MethodName := ⟨RJ2, "checkIndex", "(I[B)V"⟩
def RJ10 : String := "java/lang/System"
def RJ3 : String := "jdk/internal/util/Preconditions"
abbrev cJ3_checkIndex_8e157 : ByteArray := prog_14_method_11_code
def yJ3_checkIndex_8e157 : MethodName := ⟨RJ3, "checkIndex", "(IILjava/util/function/BiFunction;)I"⟩
def RL : String := "FollowedHoursLaw"
abbrev fh_cl : List vw_C := [(RX0, TX0, 12), (RX1, TX1, 6), (RX2, TX2, 3), (RX3, TX3, 2), (RX4, TX4, 8), (RX5, TX5, 21)]
theorem fh_in0 : ∀ w ∈ u_ws RX0 TX0 12, w ∈ fh_T := by
  intro w hw
  have h : w ∈ lw_tbl := (by decide +kernel : ∀ w ∈ u_ws RX0 TX0 12, w ∈ lw_tbl) w hw
  exact List.mem_filter.mpr ⟨h, (by decide +kernel : ∀ w ∈ u_ws RX0 TX0 12, goodWord w = true) w hw⟩
theorem fh_in1 : ∀ w ∈ u_ws RX1 TX1 6, w ∈ fh_T := by
  intro w hw
  have h : w ∈ lw_tbl := (by decide +kernel : ∀ w ∈ u_ws RX1 TX1 6, w ∈ lw_tbl) w hw
  exact List.mem_filter.mpr ⟨h, (by decide +kernel : ∀ w ∈ u_ws RX1 TX1 6, goodWord w = true) w hw⟩
theorem fh_in2 : ∀ w ∈ u_ws RX2 TX2 3, w ∈ fh_T := by
  intro w hw
  have h : w ∈ lw_tbl := (by decide +kernel : ∀ w ∈ u_ws RX2 TX2 3, w ∈ lw_tbl) w hw
  exact List.mem_filter.mpr ⟨h, (by decide +kernel : ∀ w ∈ u_ws RX2 TX2 3, goodWord w = true) w hw⟩
theorem fh_in3 : ∀ w ∈ u_ws RX3 TX3 2, w ∈ fh_T := by
  intro w hw
  have h : w ∈ lw_tbl := (by decide +kernel : ∀ w ∈ u_ws RX3 TX3 2, w ∈ lw_tbl) w hw
  exact List.mem_filter.mpr ⟨h, (by decide +kernel : ∀ w ∈ u_ws RX3 TX3 2, goodWord w = true) w hw⟩
theorem fh_in4 : ∀ w ∈ u_ws RX4 TX4 8, w ∈ fh_T := by
  intro w hw
  have h : w ∈ lw_tbl := (by decide +kernel : ∀ w ∈ u_ws RX4 TX4 8, w ∈ lw_tbl) w hw
  exact List.mem_filter.mpr ⟨h, (by decide +kernel : ∀ w ∈ u_ws RX4 TX4 8, goodWord w = true) w hw⟩
theorem fh_in5 : ∀ w ∈ u_ws RX5 TX5 21, w ∈ fh_T := by
  intro w hw
  have h : w ∈ lw_tbl := (by decide +kernel : ∀ w ∈ u_ws RX5 TX5 21, w ∈ lw_tbl) w hw
  exact List.mem_filter.mpr ⟨h, (by decide +kernel : ∀ w ∈ u_ws RX5 TX5 21, goodWord w = true) w hw⟩
end
section
/-! ===== the abstract store: cell k, place j; all references are fixed ===== -/
abbrev fh_S : Type := Nat → Nat → Int32
abbrev fh_E : Type := va_G × (ClassId × ClassId × ClassId) × (Nat → Nat) × (Nat → Nat) × (Nat → Nat) × Nat × (Nat → Prop)
def fh_D (E : fh_E) : va_G := E.1
def fh_cI (E : fh_E) : ClassId := E.2.1.1
def fh_cS (E : fh_E) : ClassId := E.2.1.2.1
def fh_cT (E : fh_E) : ClassId := E.2.1.2.2
def fh_ad (E : fh_E) : Nat → Nat := E.2.2.1
def fh_aK (E : fh_E) : Nat → Nat := E.2.2.2.1
def fh_aV (E : fh_E) : Nat → Nat := E.2.2.2.2.1
def fh_tu (E : fh_E) : Nat := E.2.2.2.2.2.1
def fh_A (E : fh_E) : Nat → Prop := E.2.2.2.2.2.2
/-- the shape of a cell: an int[] of so many; an object (its class's number; a field is an int or a fixed cell); Sheet[] (true), String[] (false) -/
abbrev fh_Sh : Type := Nat ⊕ ((Nat × List (Option Nat)) ⊕ Bool)
def fh_gsh (g : Nat) : List fh_Sh := .inr (.inl (0, [some (g+1), some (g+2), some (g+3), some (g+4), some (g+5), some (g+6), some (g+7), some (g+8), some (g+9), none, none, none])) :: List.replicate 9 (.inl 10)
def fh_tab : List fh_Sh :=
  [.inr (.inl (4, [some 1, some 11, some 21, some 31, some 33, some 34, some 43, none]))] ++ fh_gsh 1 ++ fh_gsh 11 ++ fh_gsh 21 ++
  [.inr (.inl (3, [some 32, none])), .inl 120, .inr (.inl (1, [some 31, none, none, none, none, none])), .inr (.inr true),
   .inr (.inl (2, [some 36, none, none])), .inl 40, .inr (.inl (2, [some 38, none, none])), .inl 40, .inr (.inl (2, [some 40, none, none])), .inl 40, .inr (.inl (2, [some 42, none, none])), .inl 40, .inl 7,
   .inr (.inl (5, [some 45, some 46, some 47, none, some 48, some 49, some 50, none, none, none, none, none, none, some 51, some 52, none, none, some 53, some 54, some 55, some 56])),
   .inl 73, .inl 73, .inl 73, .inl 8, .inl 10, .inl 120, .inr (.inr false), .inl 720, .inl 4, .inl 4, .inl 160, .inl 40]
theorem fh_tab_len : fh_tab.length = 57 := by decide +kernel
def fh_shp (k : Nat) : Option fh_Sh := fh_tab[k]?
def fh_ce (E : fh_E) (f : Nat → Int32) (sh : fh_Sh) : va_E := match sh with
  | .inl n => .inl (fh_cI E, n, .inl f)
  | .inr (.inl (ci, fs)) => .inr (ci, fs.mapIdx (fun j o => match o with
    | none => Value.int (f j)
    | some q => .ref (fh_ad E q)))
  | .inr (.inr true) => .inl (fh_cS E, 4, .inr (.inr (.inr (.inr (fun j => some (fh_ad E (35 + 2 * j)))))))
  | .inr (.inr false) => .inl (fh_cT E, 7, .inr (.inr (.inr (.inr (fun j => some (fh_aK E (13 + j)))))))
def fh_ws (E : fh_E) (σ : fh_S) : va_W := fh_tab.mapIdx (fun k sh => (fh_ad E k, fh_ce E (σ k) sh))
def fh_row (σ : fh_S) (k : Nat) (f : Nat → Int32) : fh_S := fun a => if a = k then f else σ a
theorem fh_row_s {σ : fh_S} {k : Nat} {f : Nat → Int32} : fh_row σ k f k = f := if_pos rfl
theorem fh_row_n {σ : fh_S} {k a : Nat} {f : Nat → Int32} (h : a ≠ k) : fh_row σ k f a = σ a := if_neg h
theorem fh_look {E : fh_E} {σ : fh_S} {k : Nat} {sh : fh_Sh} (h : fh_shp k = some sh) : (fh_ws E σ)[k]? = some (fh_ad E k, fh_ce E (σ k) sh) := by
  unfold fh_ws
  rw [List.getElem?_mapIdx]
  unfold fh_shp at h
  rw [h]
  rfl
theorem fh_set {E : fh_E} {σ : fh_S} {k : Nat} {sh : fh_Sh} {f : Nat → Int32} (h : fh_shp k = some sh) : (fh_ws E σ).set k (fh_ad E k, fh_ce E f sh) = fh_ws E (fh_row σ k f) := by
  unfold fh_shp at h
  have hl : k < fh_tab.length := (List.getElem?_eq_some_iff.mp h).1
  apply List.ext_getElem?
  intro i
  unfold fh_ws
  by_cases hi : i = k
  · subst hi
    rw [List.getElem?_set_self (by simpa using hl), List.getElem?_mapIdx, h]
    simp [fh_row]
  · rw [List.getElem?_set_ne (Ne.symm hi), List.getElem?_mapIdx, List.getElem?_mapIdx]
    simp [fh_row, hi]
def fh_ok (E : fh_E) : Prop := (∀ i j, i < 57 → j < 57 → fh_ad E i = fh_ad E j → i = j) ∧ ∀ k, k < 57 → fh_A E (fh_ad E k)
theorem fh_hD {E : fh_E} (h : fh_ok E) (σ : fh_S) : va_D (fh_A E) (fh_ws E σ) := by
  have key : ∀ (k : Nat) (q : Nat × va_E), (fh_ws E σ)[k]? = some q → k < 57 ∧ q.1 = fh_ad E k := by
    intro k q hq
    unfold fh_ws at hq
    rw [List.getElem?_mapIdx] at hq
    cases ht : fh_tab[k]? with
    | none => rw [ht] at hq; cases hq
    | some sh =>
      rw [ht] at hq
      cases hq
      have := (List.getElem?_eq_some_iff.mp ht).1
      rw [fh_tab_len] at this
      exact ⟨this, rfl⟩
  refine ⟨fun i j p q hi hj e => ?_, fun k q hk => ?_⟩
  · obtain ⟨a1, a2⟩ := key i p hi
    obtain ⟨b1, b2⟩ := key j q hj
    exact h.1 i j a1 b1 (by rw [← a2, ← b2]; exact e)
  · obtain ⟨a1, a2⟩ := key k q hk
    rw [a2]
    exact h.2 k a1
/-! what an instruction does to the store; none: it can't be so -/
def fh_arr (k : Nat) : Option Nat := match fh_shp k with
  | some (.inl n) => some n
  | _ => none
def fh_obj (ci k : Nat) : Option (List (Option Nat)) := match fh_shp k with
  | some (.inr (.inl (c, fs))) => if c = ci then some fs else none
  | _ => none
def fh_isC (ci k : Nat) : Bool := (fh_obj ci k).isSome
def fh_ld (σ : fh_S) (k : Nat) (i : Int32) : Option Int32 := (fh_arr k).bind fun n => if i < 0 ∨ n ≤ i.toNatClampNeg then none else some (σ k i.toNatClampNeg)
def fh_st (σ : fh_S) (k : Nat) (i v : Int32) : Option fh_S := (fh_arr k).bind fun n => if i < 0 ∨ n ≤ i.toNatClampNeg then none else some (fh_row σ k (upd (σ k) i.toNatClampNeg v))
def fh_ln (k : Nat) : Option Int32 := match fh_shp k with
  | some (.inl n) => some (Int32.ofNat n)
  | some (.inr (.inr false)) => some 7
  | _ => none
def fh_gi (σ : fh_S) (ci k j : Nat) : Option Int32 := (fh_obj ci k).bind fun fs => match fs[j]? with
  | some none => some (σ k j)
  | _ => none
def fh_gr (ci k j : Nat) : Option Nat := (fh_obj ci k).bind fun fs => match fs[j]? with
  | some (some q) => some q
  | _ => none
def fh_pf (σ : fh_S) (ci k j : Nat) (v : Int32) : Option fh_S := (fh_obj ci k).bind fun fs => match fs[j]? with
  | some none => some (fh_row σ k (upd (σ k) j v))
  | _ => none
def fh_pz (σ : fh_S) (ci k j : Nat) (v : Int32) : Option fh_S := if v = 0 ∨ v = 1 then fh_pf σ ci k j v else none
def fh_lr (k : Nat) (i : Int32) : Option Nat := match fh_shp k with
  | some (.inr (.inr true)) => if i < 0 ∨ 4 ≤ i.toNatClampNeg then none else some (35 + 2 * i.toNatClampNeg)
  | _ => none
def fh_ls (k : Nat) (i : Int32) : Option Nat := match fh_shp k with
  | some (.inr (.inr false)) => if i < 0 ∨ 7 ≤ i.toNatClampNeg then none else some (13 + i.toNatClampNeg)
  | _ => none
def fh_cp (σ : fh_S) (k1 : Nat) (sp : Int32) (k2 : Nat) (dp n : Int32) : Option fh_S := (fh_arr k1).bind fun n1 => (fh_arr k2).bind fun n2 =>
  if sp < 0 ∨ dp < 0 ∨ n < 0 ∨ n1 < sp.toNatClampNeg + n.toNatClampNeg ∨ n2 < dp.toNatClampNeg + n.toNatClampNeg then none
  else some (fh_row σ k2 (va_cpy (σ k1) (σ k2) sp.toNatClampNeg dp.toNatClampNeg n.toNatClampNeg))
def fh_uk : List Int32 := [-1, 0, 0, 2, 3, 0, 1]
def fh_tk (i : Int32) : Option Int32 := if i < 0 ∨ 7 ≤ i.toNatClampNeg then none else some (fh_uk.getD i.toNatClampNeg 0)
/-- an instance method's body: of an object of its class alone -/
def fh_ob {β : Type} (ci k : Nat) (x : Option β) : Option β := if fh_isC ci k = true then x else none
theorem fh_ob_ok {β : Type} {ci k : Nat} {x : Option β} {y : β} (h : fh_ob ci k x = some y) : fh_isC ci k = true := by
  unfold fh_ob at h
  split at h
  · assumption
  · cases h
/-- behind a call -/
def fh_cb {α β : Type} (x : Option (α × fh_S)) (f : α → fh_S → Option β) : Option β := x.bind fun q => f q.1 q.2
theorem fh_cb_s {α β : Type} {r : α} {σ : fh_S} {f : α → fh_S → Option β} : fh_cb (some (r, σ)) f = f r σ := rfl
/-- a boolean's return -/
def fh_rz (v : Int32) (σ : fh_S) : Option (Int32 × fh_S) := if v = 0 ∨ v = 1 then some (v, σ) else none
def fh_vI : Int32 → Option Value := fun r => some (.int r)
def fh_vL : Int64 → Option Value := fun r => some (.long r)
def fh_vU : Unit → Option Value := fun _ => none
def fh_vR (E : fh_E) : Option Nat → Option Value := fun o => some (va_rf (o.map (fh_ad E)))
def fh_vS (E : fh_E) : Nat → Option Value := fun i => some (.ref (fh_aK E i))
/-! ===== what stands outside: the table of kinds, the String constants, the nest's links ===== -/
def fh_txt : List (List Int32) := [[100, 105, 97, 108], [108, 97, 116, 101], [116, 119, 105, 110], [98, 97, 99, 107], [112, 114, 111, 117, 100], [104, 97, 108, 102], [108, 97, 116, 101, 114], [109, 97, 115, 116, 101, 114], [115, 104, 111, 119, 115], [102, 111, 108, 108, 111, 119, 115], [103, 111, 101, 115], [109, 111, 115, 115], [115, 116, 111, 112, 112, 101, 100], [100, 105, 97, 108], [108, 97, 116, 101], [116, 119, 105, 110], [98, 97, 99, 107], [112, 114, 111, 117, 100], [104, 97, 108, 102], [108, 97, 116, 101, 114], [109, 97, 115, 116, 101, 114], [115, 104, 111, 119, 115], [102, 111, 108, 108, 111, 119, 115], [103, 111, 101, 115], [109, 111, 115, 115], [115, 116, 111, 112, 112, 101, 100]]
def fh_tx (i : Nat) : List Int32 := fh_txt.getD i []
def fh_sl (i : Nat) : Nat := (fh_tx i).length
def fh_so : List (String × Nat × String) := [("FollowedHours$Reader", 137, "dial"), ("FollowedHours$Reader", 125, "late"), ("FollowedHours$Reader", 127, "twin"), ("FollowedHours$Reader", 129, "back"), ("FollowedHours$Reader", 131, "proud"), ("FollowedHours$Reader", 133, "half"), ("FollowedHours$Reader", 135, "later"), ("FollowedHours$Reader", 25, "master"), ("FollowedHours$Reader", 72, "shows"), ("FollowedHours$Reader", 77, "follows"), ("FollowedHours$Reader", 79, "goes"), ("FollowedHours$Reader", 84, "moss"), ("FollowedHours$Reader", 89, "stopped"), ("FollowedHoursModel", 30, "dial"), ("FollowedHoursModel", 32, "late"), ("FollowedHoursModel", 34, "twin"), ("FollowedHoursModel", 36, "back"), ("FollowedHoursModel", 38, "proud"), ("FollowedHoursModel", 40, "half"), ("FollowedHoursModel", 42, "later"), ("FollowedHoursModel", 300, "master"), ("FollowedHoursModel", 280, "shows"), ("FollowedHoursModel", 285, "follows"), ("FollowedHoursModel", 287, "goes"), ("FollowedHoursModel", 292, "moss"), ("FollowedHoursModel", 294, "stopped")]
def fh_nest : List Cond := [(Jvm.Cond.methodLinkNest "FollowedHours" (24 : Nat) ({ cls := "FollowedHours$Tape", name := "<init>", desc := "()V" } : Jvm.MethodName) "FollowedHours"), (Jvm.Cond.methodLinkNest "FollowedHours" (44 : Nat) ({ cls := "FollowedHours$Sheet", name := "<init>", desc := "()V" } : Jvm.MethodName) "FollowedHours"), (Jvm.Cond.methodLinkNest "FollowedHours$Garden" (61 : Nat) ({ cls := "FollowedHours", name := "isKind", desc := "(I)Z" } : Jvm.MethodName) "FollowedHours"), (Jvm.Cond.methodLinkNest "FollowedHours$Garden" (65 : Nat) ({ cls := "FollowedHours", name := "isHour", desc := "(I)Z" } : Jvm.MethodName) "FollowedHours"), (Jvm.Cond.methodLinkNest "FollowedHours$Garden" (71 : Nat) ({ cls := "FollowedHours", name := "isWithin", desc := "(III)Z" } : Jvm.MethodName) "FollowedHours"), (Jvm.Cond.methodLinkNest "FollowedHours$Garden" (75 : Nat) ({ cls := "FollowedHours", name := "roundHour", desc := "(I)I" } : Jvm.MethodName) "FollowedHours"), (Jvm.Cond.methodLinkNest "FollowedHours$Garden" (125 : Nat) ({ cls := "FollowedHours", name := "lowestOf", desc := "(I)I" } : Jvm.MethodName) "FollowedHours"), (Jvm.Cond.methodLinkNest "FollowedHours$Garden" (128 : Nat) ({ cls := "FollowedHours", name := "isIn", desc := "(II)Z" } : Jvm.MethodName) "FollowedHours"), (Jvm.Cond.fieldLinkNest "FollowedHours$Reader" (118 : Nat) "FollowedHours" "UPPER_KIND" "[I" "FollowedHours")]
def fh_Str (E : fh_E) (U : State) (i : Nat) : Prop := va_O "java/lang/String" (fh_aK E i) (fh_A E) U U.heap ∧ va_OF "java/lang/String" "coder" "B" (.int 0) (fh_aK E i) (fh_A E) U U.heap ∧ va_OF "java/lang/String" "value" "[B" (.ref (fh_aV E i)) (fh_aK E i) (fh_A E) U U.heap ∧ va_T .byte (fh_aV E i) (fh_sl i) (fun j => .int ((fh_tx i).getD j 0)) (fh_A E) U U.heap
def fh_X (E : fh_E) (U : State) : Prop :=
  va_Z "FollowedHours" "UPPER_KIND" "[I" (.ref (fh_tu E)) (fh_A E) U U.heap ∧ va_T .int (fh_tu E) 7 (fun j => .int (fh_uk.getD j 0)) (fh_A E) U U.heap ∧
  va_Z "java/lang/String" "COMPACT_STRINGS" "Z" (.int 1) (fh_A E) U U.heap ∧ va_Zq "jdk/internal/util/Preconditions" "SIOOBE_FORMATTER" "Ljava/util/function/BiFunction;" (fh_A E) U U.heap ∧
  (∀ i, i < 26 → fh_Str E U i) ∧ (∀ (i : Nat) (q : String × Nat × String), fh_so[i]? = some q → vk_R q.1 q.2.1 q.2.2 (fh_aK E i) U) ∧ ∀ w ∈ fh_nest, va_Nw w U
theorem fh_nest_warm {s U : State} (hW : s.WarmedH U.vm) (h : ∀ w ∈ fh_nest, va_Nw w s) : ∀ w ∈ fh_nest, va_Nw w U := by
  intro w hw
  have hs := h w hw
  simp only [fh_nest, List.mem_cons, List.not_mem_nil, or_false] at hw
  rcases hw with rfl | rfl | rfl | rfl | rfl | rfl | rfl | rfl | rfl
  all_goals first | exact va_Nw.warmM hW hs | exact va_Nw.warmF hW hs
theorem fh_X_go {E : fh_E} {s U : State} {H : Heap} {locs : List Loc} (h : fh_X E s) (hS : va_S (fh_A E) s.heap H locs) (hH : U.heap = H) (hW : s.WarmedH U.vm) : fh_X E U := by
  obtain ⟨h1, h2, h3, h4, h5, h6, h7⟩ := h
  have hk := hS.2.1
  have hal := hW.alike
  unfold fh_X fh_Str
  rw [hH]
  exact ⟨(h1.kept hk).moved hal, (h2.kept hk).moved hal, (h3.kept hk).moved hal, (h4.kept hk).moved hal, fun i hi => ⟨((h5 i hi).1.kept hk).moved hal, ((h5 i hi).2.1.kept hk).moved hal, ((h5 i hi).2.2.1.kept hk).moved hal, ((h5 i hi).2.2.2.kept hk).moved hal⟩, fun i q hq => (h6 i q hq).warm hW, fh_nest_warm hW h7⟩
def fh_ty (E : fh_E) : List (ClassId × FieldType) := [(fh_cI E, .int), (fh_cS E, .object RX2), (fh_cT E, .object "java/lang/String")]
def fh_Wd (E : fh_E) (σ : fh_S) (U : State) : Prop := va_P (fh_D E) fh_cl (fh_ws E σ) U.heap ∧ va_K (fh_D E) fh_cl (fh_ty E) U ∧ fh_X E U
def fh_Q (E : fh_E) (v : Option Value) (σ' : fh_S) : Array Value → State → Outcome → State → Prop := fun _ st oc t => oc = .returned v ∧ va_P (fh_D E) fh_cl (fh_ws E σ') t.heap ∧ va_F (fh_A E) st t
/-! ===== Go: from here, with these locals, this stack and this store, the method ends as X says, if X says anything ===== -/
abbrev fh_M : Type := Program × Launch × Env × Room × State × MethodId × Array Value × List Frame × Method × Code
def fh_Cx (E : fh_E) (M : fh_M) (cc : ByteArray) (nL : Nat) (own : String) (rt : Option FieldType) (rm : Room) : Prop := match M with
  | (p, _, _, R, s, m, args, _, meth, c) => p.tables.exec = Jvm.exec ∧ c.code = cc ∧ c.maxLocals = nL ∧ s.vm.findClass own = some m.cls ∧ (∀ w ∈ fh_T, w.before args s = true) ∧ meth.locks = false ∧ meth.sig.returnType = rt ∧ R = rm ∧ va_K (fh_D E) fh_cl (fh_ty E) s ∧ fh_X E s ∧ fh_ok E
def fh_Go {α : Type} (E : fh_E) (M : fh_M) (nL : Nat) (vw : α → Option Value) (pc : Nat) (lv : List (Nat × Value)) (st : List Value) (σ : fh_S) (X : Option (α × fh_S)) : Prop := match M with
  | (p, l, e, R, s, m, args, below, meth, c) => ∀ (r : α) (σ' : fh_S), X = some (r, σ') → ∀ (H : Heap) (locs : List Loc) (ls : Array Slot), va_P (fh_D E) fh_cl (fh_ws E σ) H → va_S (fh_A E) s.heap H locs → lv_has ls nL lv →
    W p l e R s m args below meth c H locs 0 0 (MQ below (fh_Q E (vw r) σ') args s 0 0 (fh_A E)) (F0 m pc ls st)
section FHGO
variable {α : Type} {E : fh_E} {M : fh_M} {cc : ByteArray} {nL : Nat} {own : String} {rt : Option FieldType} {rm : Room} {vw : α → Option Value} {pc : Nat} {lv : List (Nat × Value)} {st : List Value} {σ : fh_S} {X : Option (α × fh_S)}
theorem go_iadd (C : fh_Cx E M cc nL own rt rm) {x y : Int32} (hd : decode cc pc = .ok (.iadd, 1)) (K : fh_Go E M nL vw (pc + 1) lv (.int (x + y) :: st) σ X) : fh_Go E M nL vw pc lv (.int y :: .int x :: st) σ X := by
  obtain ⟨p, l, e, R, s, m, args, below, meth, c⟩ := M
  obtain ⟨hx, hb, hml, hown, hts, hlk, hr, hR, hK, hE, hok⟩ := C
  intro r σ' hX H locs ls hP hS hl
  exact lv_iadd hx hb hd (K r σ' hX H locs ls hP hS hl)
theorem go_isub (C : fh_Cx E M cc nL own rt rm) {x y : Int32} (hd : decode cc pc = .ok (.isub, 1)) (K : fh_Go E M nL vw (pc + 1) lv (.int (x - y) :: st) σ X) : fh_Go E M nL vw pc lv (.int y :: .int x :: st) σ X := by
  obtain ⟨p, l, e, R, s, m, args, below, meth, c⟩ := M
  obtain ⟨hx, hb, hml, hown, hts, hlk, hr, hR, hK, hE, hok⟩ := C
  intro r σ' hX H locs ls hP hS hl
  exact lv_isub hx hb hd (K r σ' hX H locs ls hP hS hl)
theorem go_imul (C : fh_Cx E M cc nL own rt rm) {x y : Int32} (hd : decode cc pc = .ok (.imul, 1)) (K : fh_Go E M nL vw (pc + 1) lv (.int (x * y) :: st) σ X) : fh_Go E M nL vw pc lv (.int y :: .int x :: st) σ X := by
  obtain ⟨p, l, e, R, s, m, args, below, meth, c⟩ := M
  obtain ⟨hx, hb, hml, hown, hts, hlk, hr, hR, hK, hE, hok⟩ := C
  intro r σ' hX H locs ls hP hS hl
  exact lv_imul hx hb hd (K r σ' hX H locs ls hP hS hl)
theorem go_iand (C : fh_Cx E M cc nL own rt rm) {x y : Int32} (hd : decode cc pc = .ok (.iand, 1)) (K : fh_Go E M nL vw (pc + 1) lv (.int (x &&& y) :: st) σ X) : fh_Go E M nL vw pc lv (.int y :: .int x :: st) σ X := by
  obtain ⟨p, l, e, R, s, m, args, below, meth, c⟩ := M
  obtain ⟨hx, hb, hml, hown, hts, hlk, hr, hR, hK, hE, hok⟩ := C
  intro r σ' hX H locs ls hP hS hl
  exact lv_iand hx hb hd (K r σ' hX H locs ls hP hS hl)
theorem go_ior (C : fh_Cx E M cc nL own rt rm) {x y : Int32} (hd : decode cc pc = .ok (.ior, 1)) (K : fh_Go E M nL vw (pc + 1) lv (.int (x ||| y) :: st) σ X) : fh_Go E M nL vw pc lv (.int y :: .int x :: st) σ X := by
  obtain ⟨p, l, e, R, s, m, args, below, meth, c⟩ := M
  obtain ⟨hx, hb, hml, hown, hts, hlk, hr, hR, hK, hE, hok⟩ := C
  intro r σ' hX H locs ls hP hS hl
  exact lv_ior hx hb hd (K r σ' hX H locs ls hP hS hl)
theorem go_ixor (C : fh_Cx E M cc nL own rt rm) {x y : Int32} (hd : decode cc pc = .ok (.ixor, 1)) (K : fh_Go E M nL vw (pc + 1) lv (.int (x ^^^ y) :: st) σ X) : fh_Go E M nL vw pc lv (.int y :: .int x :: st) σ X := by
  obtain ⟨p, l, e, R, s, m, args, below, meth, c⟩ := M
  obtain ⟨hx, hb, hml, hown, hts, hlk, hr, hR, hK, hE, hok⟩ := C
  intro r σ' hX H locs ls hP hS hl
  exact lv_ixor hx hb hd (K r σ' hX H locs ls hP hS hl)
theorem go_ishl (C : fh_Cx E M cc nL own rt rm) {x y : Int32} (hd : decode cc pc = .ok (.ishl, 1)) (K : fh_Go E M nL vw (pc + 1) lv (.int (x <<< (y &&& 31)) :: st) σ X) : fh_Go E M nL vw pc lv (.int y :: .int x :: st) σ X := by
  obtain ⟨p, l, e, R, s, m, args, below, meth, c⟩ := M
  obtain ⟨hx, hb, hml, hown, hts, hlk, hr, hR, hK, hE, hok⟩ := C
  intro r σ' hX H locs ls hP hS hl
  exact lv_ishl hx hb hd (K r σ' hX H locs ls hP hS hl)
theorem go_ishr (C : fh_Cx E M cc nL own rt rm) {x y : Int32} (hd : decode cc pc = .ok (.ishr, 1)) (K : fh_Go E M nL vw (pc + 1) lv (.int (x >>> (y &&& 31)) :: st) σ X) : fh_Go E M nL vw pc lv (.int y :: .int x :: st) σ X := by
  obtain ⟨p, l, e, R, s, m, args, below, meth, c⟩ := M
  obtain ⟨hx, hb, hml, hown, hts, hlk, hr, hR, hK, hE, hok⟩ := C
  intro r σ' hX H locs ls hP hS hl
  exact lv_ishr hx hb hd (K r σ' hX H locs ls hP hS hl)
theorem go_iushr (C : fh_Cx E M cc nL own rt rm) {x y : Int32} (hd : decode cc pc = .ok (.iushr, 1)) (K : fh_Go E M nL vw (pc + 1) lv (.int ((x.toUInt32 >>> (y.toUInt32 &&& Int32.toUInt32 31)).toInt32) :: st) σ X) : fh_Go E M nL vw pc lv (.int y :: .int x :: st) σ X := by
  obtain ⟨p, l, e, R, s, m, args, below, meth, c⟩ := M
  obtain ⟨hx, hb, hml, hown, hts, hlk, hr, hR, hK, hE, hok⟩ := C
  intro r σ' hX H locs ls hP hS hl
  exact lv_iushr hx hb hd rfl (K r σ' hX H locs ls hP hS hl)
theorem go_idiv (C : fh_Cx E M cc nL own rt rm) {x y : Int32} (hd : decode cc pc = .ok (.idiv, 1)) (hne : ¬ y = 0) (K : fh_Go E M nL vw (pc + 1) lv (.int (x / y) :: st) σ X) : fh_Go E M nL vw pc lv (.int y :: .int x :: st) σ X := by
  obtain ⟨p, l, e, R, s, m, args, below, meth, c⟩ := M
  obtain ⟨hx, hb, hml, hown, hts, hlk, hr, hR, hK, hE, hok⟩ := C
  intro r σ' hX H locs ls hP hS hl
  exact lv_idiv hx hb hd hne (K r σ' hX H locs ls hP hS hl)
theorem go_irem (C : fh_Cx E M cc nL own rt rm) {x y : Int32} (hd : decode cc pc = .ok (.irem, 1)) (hne : ¬ y = 0) (K : fh_Go E M nL vw (pc + 1) lv (.int (x - x / y * y) :: st) σ X) : fh_Go E M nL vw pc lv (.int y :: .int x :: st) σ X := by
  obtain ⟨p, l, e, R, s, m, args, below, meth, c⟩ := M
  obtain ⟨hx, hb, hml, hown, hts, hlk, hr, hR, hK, hE, hok⟩ := C
  intro r σ' hX H locs ls hP hS hl
  exact lv_irem hx hb hd hne (K r σ' hX H locs ls hP hS hl)
theorem go_ineg (C : fh_Cx E M cc nL own rt rm) {x : Int32} (hd : decode cc pc = .ok (.ineg, 1)) (K : fh_Go E M nL vw (pc + 1) lv (.int (-x) :: st) σ X) : fh_Go E M nL vw pc lv (.int x :: st) σ X := by
  obtain ⟨p, l, e, R, s, m, args, below, meth, c⟩ := M
  obtain ⟨hx, hb, hml, hown, hts, hlk, hr, hR, hK, hE, hok⟩ := C
  intro r σ' hX H locs ls hP hS hl
  exact lv_ineg hx hb hd (K r σ' hX H locs ls hP hS hl)
theorem go_i2b (C : fh_Cx E M cc nL own rt rm) {x : Int32} (hd : decode cc pc = .ok (.i2b, 1)) (K : fh_Go E M nL vw (pc + 1) lv (.int (x.toInt8.toInt32) :: st) σ X) : fh_Go E M nL vw pc lv (.int x :: st) σ X := by
  obtain ⟨p, l, e, R, s, m, args, below, meth, c⟩ := M
  obtain ⟨hx, hb, hml, hown, hts, hlk, hr, hR, hK, hE, hok⟩ := C
  intro r σ' hX H locs ls hP hS hl
  exact lv_i2b hx hb hd rfl (K r σ' hX H locs ls hP hS hl)
theorem go_i2s (C : fh_Cx E M cc nL own rt rm) {x : Int32} (hd : decode cc pc = .ok (.i2s, 1)) (K : fh_Go E M nL vw (pc + 1) lv (.int (x.toInt16.toInt32) :: st) σ X) : fh_Go E M nL vw pc lv (.int x :: st) σ X := by
  obtain ⟨p, l, e, R, s, m, args, below, meth, c⟩ := M
  obtain ⟨hx, hb, hml, hown, hts, hlk, hr, hR, hK, hE, hok⟩ := C
  intro r σ' hX H locs ls hP hS hl
  exact lv_i2s hx hb hd rfl (K r σ' hX H locs ls hP hS hl)
theorem go_i2c (C : fh_Cx E M cc nL own rt rm) {x : Int32} (hd : decode cc pc = .ok (.i2c, 1)) (K : fh_Go E M nL vw (pc + 1) lv (.int ((x.toUInt32 % 65536).toInt32) :: st) σ X) : fh_Go E M nL vw pc lv (.int x :: st) σ X := by
  obtain ⟨p, l, e, R, s, m, args, below, meth, c⟩ := M
  obtain ⟨hx, hb, hml, hown, hts, hlk, hr, hR, hK, hE, hok⟩ := C
  intro r σ' hX H locs ls hP hS hl
  exact lv_i2c hx hb hd rfl (K r σ' hX H locs ls hP hS hl)
theorem go_i2l (C : fh_Cx E M cc nL own rt rm) {x : Int32} (hd : decode cc pc = .ok (.i2l, 1)) (K : fh_Go E M nL vw (pc + 1) lv (.long (x.toInt64) :: st) σ X) : fh_Go E M nL vw pc lv (.int x :: st) σ X := by
  obtain ⟨p, l, e, R, s, m, args, below, meth, c⟩ := M
  obtain ⟨hx, hb, hml, hown, hts, hlk, hr, hR, hK, hE, hok⟩ := C
  intro r σ' hX H locs ls hP hS hl
  exact lv_i2l hx hb hd rfl (K r σ' hX H locs ls hP hS hl)
theorem go_ladd (C : fh_Cx E M cc nL own rt rm) {x y : Int64} (hd : decode cc pc = .ok (.ladd, 1)) (K : fh_Go E M nL vw (pc + 1) lv (.long (x + y) :: st) σ X) : fh_Go E M nL vw pc lv (.long y :: .long x :: st) σ X := by
  obtain ⟨p, l, e, R, s, m, args, below, meth, c⟩ := M
  obtain ⟨hx, hb, hml, hown, hts, hlk, hr, hR, hK, hE, hok⟩ := C
  intro r σ' hX H locs ls hP hS hl
  exact lv_ladd hx hb hd (K r σ' hX H locs ls hP hS hl)
theorem go_lmul (C : fh_Cx E M cc nL own rt rm) {x y : Int64} (hd : decode cc pc = .ok (.lmul, 1)) (K : fh_Go E M nL vw (pc + 1) lv (.long (x * y) :: st) σ X) : fh_Go E M nL vw pc lv (.long y :: .long x :: st) σ X := by
  obtain ⟨p, l, e, R, s, m, args, below, meth, c⟩ := M
  obtain ⟨hx, hb, hml, hown, hts, hlk, hr, hR, hK, hE, hok⟩ := C
  intro r σ' hX H locs ls hP hS hl
  exact lv_lmul hx hb hd (K r σ' hX H locs ls hP hS hl)
theorem go_lcmp (C : fh_Cx E M cc nL own rt rm) {x y : Int64} (hd : decode cc pc = .ok (.lcmp, 1)) (K : fh_Go E M nL vw (pc + 1) lv (.int (lg_cmp x y) :: st) σ X) : fh_Go E M nL vw pc lv (.long y :: .long x :: st) σ X := by
  obtain ⟨p, l, e, R, s, m, args, below, meth, c⟩ := M
  obtain ⟨hx, hb, hml, hown, hts, hlk, hr, hR, hK, hE, hok⟩ := C
  intro r σ' hX H locs ls hP hS hl
  exact W.lcmp hx hb hd (K r σ' hX H locs ls hP hS hl)
theorem go_iconst (C : fh_Cx E M cc nL own rt rm) {n : Int} (v : Int32) (hd : decode cc pc = .ok (.iconst n, 1)) (hv : Int32.ofInt n = v) (K : fh_Go E M nL vw (pc + 1) lv (.int v :: st) σ X) : fh_Go E M nL vw pc lv (st) σ X := by
  obtain ⟨p, l, e, R, s, m, args, below, meth, c⟩ := M
  obtain ⟨hx, hb, hml, hown, hts, hlk, hr, hR, hK, hE, hok⟩ := C
  intro r σ' hX H locs ls hP hS hl
  exact lv_iconst hx hb hd hv (K r σ' hX H locs ls hP hS hl)
theorem go_bipush (C : fh_Cx E M cc nL own rt rm) {n : Int} (v : Int32) (hd : decode cc pc = .ok (.bipush n, 2)) (hv : (Int8.ofInt n).toInt32 = v) (K : fh_Go E M nL vw (pc + 2) lv (.int v :: st) σ X) : fh_Go E M nL vw pc lv (st) σ X := by
  obtain ⟨p, l, e, R, s, m, args, below, meth, c⟩ := M
  obtain ⟨hx, hb, hml, hown, hts, hlk, hr, hR, hK, hE, hok⟩ := C
  intro r σ' hX H locs ls hP hS hl
  exact lv_bipush hx hb hd hv (K r σ' hX H locs ls hP hS hl)
theorem go_sipush (C : fh_Cx E M cc nL own rt rm) {n : Int} (v : Int32) (hd : decode cc pc = .ok (.sipush n, 3)) (hv : (Int16.ofInt n).toInt32 = v) (K : fh_Go E M nL vw (pc + 3) lv (.int v :: st) σ X) : fh_Go E M nL vw pc lv (st) σ X := by
  obtain ⟨p, l, e, R, s, m, args, below, meth, c⟩ := M
  obtain ⟨hx, hb, hml, hown, hts, hlk, hr, hR, hK, hE, hok⟩ := C
  intro r σ' hX H locs ls hP hS hl
  exact lv_sipush hx hb hd hv (K r σ' hX H locs ls hP hS hl)
theorem go_lconst (C : fh_Cx E M cc nL own rt rm) {n : Fin 2} (v : Int64) (hd : decode cc pc = .ok (.lconst n, 1)) (hv : Int64.ofNat (n : Nat) = v) (K : fh_Go E M nL vw (pc + 1) lv (.long v :: st) σ X) : fh_Go E M nL vw pc lv (st) σ X := by
  obtain ⟨p, l, e, R, s, m, args, below, meth, c⟩ := M
  obtain ⟨hx, hb, hml, hown, hts, hlk, hr, hR, hK, hE, hok⟩ := C
  intro r σ' hX H locs ls hP hS hl
  exact lv_lconst hx hb hd hv (K r σ' hX H locs ls hP hS hl)
theorem go_ldc (C : fh_Cx E M cc nL own rt rm) {idx : Nat} {v : Int32} (hc : Cond.constant own idx v ∈ fh_T) (hd : decode cc pc = .ok (.ldc idx, 2)) (K : fh_Go E M nL vw (pc + 2) lv (.int v :: st) σ X) : fh_Go E M nL vw pc lv (st) σ X := by
  obtain ⟨p, l, e, R, s, m, args, below, meth, c⟩ := M
  obtain ⟨hx, hb, hml, hown, hts, hlk, hr, hR, hK, hE, hok⟩ := C
  intro r σ' hX H locs ls hP hS hl
  exact lv_ldc hx hb hown (hts _ hc) hd (K r σ' hX H locs ls hP hS hl)
theorem go_ldcw (C : fh_Cx E M cc nL own rt rm) {idx : Nat} {v : Int32} (hc : Cond.constant own idx v ∈ fh_T) (hd : decode cc pc = .ok (.ldc_w idx, 3)) (K : fh_Go E M nL vw (pc + 3) lv (.int v :: st) σ X) : fh_Go E M nL vw pc lv (st) σ X := by
  obtain ⟨p, l, e, R, s, m, args, below, meth, c⟩ := M
  obtain ⟨hx, hb, hml, hown, hts, hlk, hr, hR, hK, hE, hok⟩ := C
  intro r σ' hX H locs ls hP hS hl
  exact lv_ldcw hx hb hown (hts _ hc) hd (K r σ' hX H locs ls hP hS hl)
theorem go_iload_n (C : fh_Cx E M cc nL own rt rm) {k : Fin 4} {x : Int32} (j : Nat) {i : Nat} (hj : lv[j]? = some (i, .int x)) (hk : (k : Nat) = i) (hd : decode cc pc = .ok (.iload_n k, 1)) (K : fh_Go E M nL vw (pc + 1) lv (.int x :: st) σ X) : fh_Go E M nL vw pc lv (st) σ X := by
  obtain ⟨p, l, e, R, s, m, args, below, meth, c⟩ := M
  obtain ⟨hx, hb, hml, hown, hts, hlk, hr, hR, hK, hE, hok⟩ := C
  intro r σ' hX H locs ls hP hS hl
  exact lv_iload_n hx hb hd hk (lv_at hl j hj) (K r σ' hX H locs ls hP hS hl)
theorem go_iload (C : fh_Cx E M cc nL own rt rm) {x : Int32} (j : Nat) {i : Nat} (hj : lv[j]? = some (i, .int x)) (hd : decode cc pc = .ok (.iload i, 2)) (K : fh_Go E M nL vw (pc + 2) lv (.int x :: st) σ X) : fh_Go E M nL vw pc lv (st) σ X := by
  obtain ⟨p, l, e, R, s, m, args, below, meth, c⟩ := M
  obtain ⟨hx, hb, hml, hown, hts, hlk, hr, hR, hK, hE, hok⟩ := C
  intro r σ' hX H locs ls hP hS hl
  exact lv_iload hx hb hd (lv_at hl j hj) (K r σ' hX H locs ls hP hS hl)
theorem go_istore_n (C : fh_Cx E M cc nL own rt rm) {k : Fin 4} {x : Int32} {i : Nat} (lv' : List (Nat × Value)) (hlv : (i, Value.int x) :: lv.filter (fun q => !(q.1 == i) && !(q.1 + 1 == i && q.2.category == 2)) = lv') (hk : (k : Nat) = i) (hi : i < nL) (hd : decode cc pc = .ok (.istore_n k, 1)) (K : fh_Go E M nL vw (pc + 1) lv' st σ X) : fh_Go E M nL vw pc lv (.int x :: st) σ X := by
  obtain ⟨p, l, e, R, s, m, args, below, meth, c⟩ := M
  obtain ⟨hx, hb, hml, hown, hts, hlk, hr, hR, hK, hE, hok⟩ := C
  intro r σ' hX H locs ls hP hS hl
  exact lv_istore_n hx hb hd hk hl hi hlv (fun ls' hl' => K r σ' hX H locs ls' hP hS hl')
theorem go_istore (C : fh_Cx E M cc nL own rt rm) {x : Int32} {i : Nat} (lv' : List (Nat × Value)) (hlv : (i, Value.int x) :: lv.filter (fun q => !(q.1 == i) && !(q.1 + 1 == i && q.2.category == 2)) = lv') (hi : i < nL) (hd : decode cc pc = .ok (.istore i, 2)) (K : fh_Go E M nL vw (pc + 2) lv' st σ X) : fh_Go E M nL vw pc lv (.int x :: st) σ X := by
  obtain ⟨p, l, e, R, s, m, args, below, meth, c⟩ := M
  obtain ⟨hx, hb, hml, hown, hts, hlk, hr, hR, hK, hE, hok⟩ := C
  intro r σ' hX H locs ls hP hS hl
  exact lv_istore hx hb hd hl hi hlv (fun ls' hl' => K r σ' hX H locs ls' hP hS hl')
theorem go_lload_n (C : fh_Cx E M cc nL own rt rm) {k : Fin 4} {x : Int64} (j : Nat) {i : Nat} (hj : lv[j]? = some (i, .long x)) (hk : (k : Nat) = i) (hd : decode cc pc = .ok (.lload_n k, 1)) (K : fh_Go E M nL vw (pc + 1) lv (.long x :: st) σ X) : fh_Go E M nL vw pc lv (st) σ X := by
  obtain ⟨p, l, e, R, s, m, args, below, meth, c⟩ := M
  obtain ⟨hx, hb, hml, hown, hts, hlk, hr, hR, hK, hE, hok⟩ := C
  intro r σ' hX H locs ls hP hS hl
  exact lv_lload_n hx hb hd hk (lv_at hl j hj) (K r σ' hX H locs ls hP hS hl)
theorem go_lload (C : fh_Cx E M cc nL own rt rm) {x : Int64} (j : Nat) {i : Nat} (hj : lv[j]? = some (i, .long x)) (hd : decode cc pc = .ok (.lload i, 2)) (K : fh_Go E M nL vw (pc + 2) lv (.long x :: st) σ X) : fh_Go E M nL vw pc lv (st) σ X := by
  obtain ⟨p, l, e, R, s, m, args, below, meth, c⟩ := M
  obtain ⟨hx, hb, hml, hown, hts, hlk, hr, hR, hK, hE, hok⟩ := C
  intro r σ' hX H locs ls hP hS hl
  exact lv_lload hx hb hd (lv_at hl j hj) (K r σ' hX H locs ls hP hS hl)
theorem go_lstore_n (C : fh_Cx E M cc nL own rt rm) {k : Fin 4} {x : Int64} {i : Nat} (lv' : List (Nat × Value)) (hlv : (i, Value.long x) :: lv.filter (fun q => !(q.1 == i) && (!(q.1 == i + 1) && !(q.1 + 1 == i && q.2.category == 2))) = lv') (hk : (k : Nat) = i) (hi : i + 1 < nL) (hd : decode cc pc = .ok (.lstore_n k, 1)) (K : fh_Go E M nL vw (pc + 1) lv' st σ X) : fh_Go E M nL vw pc lv (.long x :: st) σ X := by
  obtain ⟨p, l, e, R, s, m, args, below, meth, c⟩ := M
  obtain ⟨hx, hb, hml, hown, hts, hlk, hr, hR, hK, hE, hok⟩ := C
  intro r σ' hX H locs ls hP hS hl
  exact lv_lstore_n hx hb hd hk hl hi hlv (fun ls' hl' => K r σ' hX H locs ls' hP hS hl')
theorem go_lstore (C : fh_Cx E M cc nL own rt rm) {x : Int64} {i : Nat} (lv' : List (Nat × Value)) (hlv : (i, Value.long x) :: lv.filter (fun q => !(q.1 == i) && (!(q.1 == i + 1) && !(q.1 + 1 == i && q.2.category == 2))) = lv') (hi : i + 1 < nL) (hd : decode cc pc = .ok (.lstore i, 2)) (K : fh_Go E M nL vw (pc + 2) lv' st σ X) : fh_Go E M nL vw pc lv (.long x :: st) σ X := by
  obtain ⟨p, l, e, R, s, m, args, below, meth, c⟩ := M
  obtain ⟨hx, hb, hml, hown, hts, hlk, hr, hR, hK, hE, hok⟩ := C
  intro r σ' hX H locs ls hP hS hl
  exact lv_lstore hx hb hd hl hi hlv (fun ls' hl' => K r σ' hX H locs ls' hP hS hl')
theorem go_aload_n (C : fh_Cx E M cc nL own rt rm) {k : Fin 4} {x : Nat} (j : Nat) {i : Nat} (hj : lv[j]? = some (i, .ref x)) (hk : (k : Nat) = i) (hd : decode cc pc = .ok (.aload_n k, 1)) (K : fh_Go E M nL vw (pc + 1) lv (.ref x :: st) σ X) : fh_Go E M nL vw pc lv (st) σ X := by
  obtain ⟨p, l, e, R, s, m, args, below, meth, c⟩ := M
  obtain ⟨hx, hb, hml, hown, hts, hlk, hr, hR, hK, hE, hok⟩ := C
  intro r σ' hX H locs ls hP hS hl
  exact lv_aload_n hx hb hd hk (lv_at hl j hj) (K r σ' hX H locs ls hP hS hl)
theorem go_aload (C : fh_Cx E M cc nL own rt rm) {x : Nat} (j : Nat) {i : Nat} (hj : lv[j]? = some (i, .ref x)) (hd : decode cc pc = .ok (.aload i, 2)) (K : fh_Go E M nL vw (pc + 2) lv (.ref x :: st) σ X) : fh_Go E M nL vw pc lv (st) σ X := by
  obtain ⟨p, l, e, R, s, m, args, below, meth, c⟩ := M
  obtain ⟨hx, hb, hml, hown, hts, hlk, hr, hR, hK, hE, hok⟩ := C
  intro r σ' hX H locs ls hP hS hl
  exact lv_aload hx hb hd (lv_at hl j hj) (K r σ' hX H locs ls hP hS hl)
theorem go_astore_n (C : fh_Cx E M cc nL own rt rm) {k : Fin 4} {x : Nat} {i : Nat} (lv' : List (Nat × Value)) (hlv : (i, Value.ref x) :: lv.filter (fun q => !(q.1 == i) && !(q.1 + 1 == i && q.2.category == 2)) = lv') (hk : (k : Nat) = i) (hi : i < nL) (hd : decode cc pc = .ok (.astore_n k, 1)) (K : fh_Go E M nL vw (pc + 1) lv' st σ X) : fh_Go E M nL vw pc lv (.ref x :: st) σ X := by
  obtain ⟨p, l, e, R, s, m, args, below, meth, c⟩ := M
  obtain ⟨hx, hb, hml, hown, hts, hlk, hr, hR, hK, hE, hok⟩ := C
  intro r σ' hX H locs ls hP hS hl
  exact lv_astore_n hx hb hd hk hl hi hlv (fun ls' hl' => K r σ' hX H locs ls' hP hS hl')
theorem go_astore (C : fh_Cx E M cc nL own rt rm) {x : Nat} {i : Nat} (lv' : List (Nat × Value)) (hlv : (i, Value.ref x) :: lv.filter (fun q => !(q.1 == i) && !(q.1 + 1 == i && q.2.category == 2)) = lv') (hi : i < nL) (hd : decode cc pc = .ok (.astore i, 2)) (K : fh_Go E M nL vw (pc + 2) lv' st σ X) : fh_Go E M nL vw pc lv (.ref x :: st) σ X := by
  obtain ⟨p, l, e, R, s, m, args, below, meth, c⟩ := M
  obtain ⟨hx, hb, hml, hown, hts, hlk, hr, hR, hK, hE, hok⟩ := C
  intro r σ' hX H locs ls hP hS hl
  exact lv_astore hx hb hd hl hi hlv (fun ls' hl' => K r σ' hX H locs ls' hP hS hl')
theorem go_iinc (C : fh_Cx E M cc nL own rt rm) {n : Int} {x : Int32} (v : Int32) (j : Nat) {i : Nat} (lv' : List (Nat × Value)) (hj : lv[j]? = some (i, .int x)) (hv : x + Int32.ofInt n = v) (hlv : (i, Value.int v) :: lv.filter (fun q => !(q.1 == i) && !(q.1 + 1 == i && q.2.category == 2)) = lv') (hi : i < nL) (hd : decode cc pc = .ok (.iinc i n, 3)) (K : fh_Go E M nL vw (pc + 3) lv' st σ X) : fh_Go E M nL vw pc lv st σ X := by
  obtain ⟨p, l, e, R, s, m, args, below, meth, c⟩ := M
  obtain ⟨hx, hb, hml, hown, hts, hlk, hr, hR, hK, hE, hok⟩ := C
  intro r σ' hX H locs ls hP hS hl
  exact lv_iinc hx hb hd hl hj hv hi hlv (fun ls' hl' => K r σ' hX H locs ls' hP hS hl')
theorem go_astore_nN (C : fh_Cx E M cc nL own rt rm) {k : Fin 4} {i : Nat} (lv' : List (Nat × Value)) (hlv : (i, Value.null) :: lv.filter (fun q => !(q.1 == i) && !(q.1 + 1 == i && q.2.category == 2)) = lv') (hk : (k : Nat) = i) (hi : i < nL) (hd : decode cc pc = .ok (.astore_n k, 1)) (K : fh_Go E M nL vw (pc + 1) lv' st σ X) : fh_Go E M nL vw pc lv (.null :: st) σ X := by
  obtain ⟨p, l, e, R, s, m, args, below, meth, c⟩ := M
  obtain ⟨hx, hb, hml, hown, hts, hlk, hr, hR, hK, hE, hok⟩ := C
  intro r σ' hX H locs ls hP hS hl
  exact lv_astore_nN hx hb hd hk hl hi hlv (fun ls' hl' => K r σ' hX H locs ls' hP hS hl')
theorem go_astoreN (C : fh_Cx E M cc nL own rt rm) {i : Nat} (lv' : List (Nat × Value)) (hlv : (i, Value.null) :: lv.filter (fun q => !(q.1 == i) && !(q.1 + 1 == i && q.2.category == 2)) = lv') (hi : i < nL) (hd : decode cc pc = .ok (.astore i, 2)) (K : fh_Go E M nL vw (pc + 2) lv' st σ X) : fh_Go E M nL vw pc lv (.null :: st) σ X := by
  obtain ⟨p, l, e, R, s, m, args, below, meth, c⟩ := M
  obtain ⟨hx, hb, hml, hown, hts, hlk, hr, hR, hK, hE, hok⟩ := C
  intro r σ' hX H locs ls hP hS hl
  exact lv_astoreN hx hb hd hl hi hlv (fun ls' hl' => K r σ' hX H locs ls' hP hS hl')
theorem go_aload_nN (C : fh_Cx E M cc nL own rt rm) {k : Fin 4} (j : Nat) {i : Nat} (hj : lv[j]? = some (i, .null)) (hk : (k : Nat) = i) (hd : decode cc pc = .ok (.aload_n k, 1)) (K : fh_Go E M nL vw (pc + 1) lv (.null :: st) σ X) : fh_Go E M nL vw pc lv (st) σ X := by
  obtain ⟨p, l, e, R, s, m, args, below, meth, c⟩ := M
  obtain ⟨hx, hb, hml, hown, hts, hlk, hr, hR, hK, hE, hok⟩ := C
  intro r σ' hX H locs ls hP hS hl
  exact lv_aload_nN hx hb hd hk (lv_at hl j hj) (K r σ' hX H locs ls hP hS hl)
theorem go_aloadN (C : fh_Cx E M cc nL own rt rm) (j : Nat) {i : Nat} (hj : lv[j]? = some (i, .null)) (hd : decode cc pc = .ok (.aload i, 2)) (K : fh_Go E M nL vw (pc + 2) lv (.null :: st) σ X) : fh_Go E M nL vw pc lv (st) σ X := by
  obtain ⟨p, l, e, R, s, m, args, below, meth, c⟩ := M
  obtain ⟨hx, hb, hml, hown, hts, hlk, hr, hR, hK, hE, hok⟩ := C
  intro r σ' hX H locs ls hP hS hl
  exact lv_aloadN hx hb hd (lv_at hl j hj) (K r σ' hX H locs ls hP hS hl)
theorem go_null (C : fh_Cx E M cc nL own rt rm) (hd : decode cc pc = .ok (.aconst_null, 1)) (K : fh_Go E M nL vw (pc + 1) lv (.null :: st) σ X) : fh_Go E M nL vw pc lv (st) σ X := by
  obtain ⟨p, l, e, R, s, m, args, below, meth, c⟩ := M
  obtain ⟨hx, hb, hml, hown, hts, hlk, hr, hR, hK, hE, hok⟩ := C
  intro r σ' hX H locs ls hP hS hl
  exact lv_null hx hb hd (K r σ' hX H locs ls hP hS hl)
theorem go_dup (C : fh_Cx E M cc nL own rt rm) {v : Value} (hv : v.category = 1) (hd : decode cc pc = .ok (.dup, 1)) (K : fh_Go E M nL vw (pc + 1) lv (v :: v :: st) σ X) : fh_Go E M nL vw pc lv (v :: st) σ X := by
  obtain ⟨p, l, e, R, s, m, args, below, meth, c⟩ := M
  obtain ⟨hx, hb, hml, hown, hts, hlk, hr, hR, hK, hE, hok⟩ := C
  intro r σ' hX H locs ls hP hS hl
  exact lv_dup hx hb hd hv (K r σ' hX H locs ls hP hS hl)
theorem go_dup2 (C : fh_Cx E M cc nL own rt rm) {v w : Value} (hv : v.category = 1) (hw : w.category = 1) (hd : decode cc pc = .ok (.dup2, 1)) (K : fh_Go E M nL vw (pc + 1) lv (v :: w :: v :: w :: st) σ X) : fh_Go E M nL vw pc lv (v :: w :: st) σ X := by
  obtain ⟨p, l, e, R, s, m, args, below, meth, c⟩ := M
  obtain ⟨hx, hb, hml, hown, hts, hlk, hr, hR, hK, hE, hok⟩ := C
  intro r σ' hX H locs ls hP hS hl
  exact lv_dup2_11 hx hb hd hv hw (K r σ' hX H locs ls hP hS hl)
theorem go_pop (C : fh_Cx E M cc nL own rt rm) {v : Value} (hv : v.category = 1) (hd : decode cc pc = .ok (.pop, 1)) (K : fh_Go E M nL vw (pc + 1) lv (st) σ X) : fh_Go E M nL vw pc lv (v :: st) σ X := by
  obtain ⟨p, l, e, R, s, m, args, below, meth, c⟩ := M
  obtain ⟨hx, hb, hml, hown, hts, hlk, hr, hR, hK, hE, hok⟩ := C
  intro r σ' hX H locs ls hP hS hl
  exact lv_pop hx hb hd hv (K r σ' hX H locs ls hP hS hl)
theorem go_icmp_eq {X2 : Option (α × fh_S)} (C : fh_Cx E M cc nL own rt rm) {x y : Int32} {off : Int} {tgt : Nat} (hd : decode cc pc = .ok (.if_icmp .eq off, 3)) (ht : (pc : Int) + off = (tgt : Int)) (K1 : (x = y) → fh_Go E M nL vw tgt lv st σ X) (K2 : ¬ (x = y) → fh_Go E M nL vw (pc + 3) lv st σ X2) : fh_Go E M nL vw pc lv (.int y :: .int x :: st) σ (if x = y then X else X2) := by
  obtain ⟨p, l, e, R, s, m, args, below, meth, c⟩ := M
  obtain ⟨hx, hb, hml, hown, hts, hlk, hr, hR, hK, hE, hok⟩ := C
  intro r σ' hX H locs ls hP hS hl
  by_cases hc : x = y
  · rw [if_pos hc] at hX
    exact lv_icmp_eq hx hb hd ht (fun h => K1 h r σ' hX H locs ls hP hS hl) (fun h => absurd hc h)
  · rw [if_neg hc] at hX
    exact lv_icmp_eq hx hb hd ht (fun h => absurd h hc) (fun h => K2 h r σ' hX H locs ls hP hS hl)
theorem go_icmp_lt {X2 : Option (α × fh_S)} (C : fh_Cx E M cc nL own rt rm) {x y : Int32} {off : Int} {tgt : Nat} (hd : decode cc pc = .ok (.if_icmp .lt off, 3)) (ht : (pc : Int) + off = (tgt : Int)) (K1 : (x < y) → fh_Go E M nL vw tgt lv st σ X) (K2 : ¬ (x < y) → fh_Go E M nL vw (pc + 3) lv st σ X2) : fh_Go E M nL vw pc lv (.int y :: .int x :: st) σ (if x < y then X else X2) := by
  obtain ⟨p, l, e, R, s, m, args, below, meth, c⟩ := M
  obtain ⟨hx, hb, hml, hown, hts, hlk, hr, hR, hK, hE, hok⟩ := C
  intro r σ' hX H locs ls hP hS hl
  by_cases hc : x < y
  · rw [if_pos hc] at hX
    exact lv_icmp_lt hx hb hd ht (fun h => K1 h r σ' hX H locs ls hP hS hl) (fun h => absurd hc h)
  · rw [if_neg hc] at hX
    exact lv_icmp_lt hx hb hd ht (fun h => absurd h hc) (fun h => K2 h r σ' hX H locs ls hP hS hl)
theorem go_icmp_ge {X2 : Option (α × fh_S)} (C : fh_Cx E M cc nL own rt rm) {x y : Int32} {off : Int} {tgt : Nat} (hd : decode cc pc = .ok (.if_icmp .ge off, 3)) (ht : (pc : Int) + off = (tgt : Int)) (K1 : (y ≤ x) → fh_Go E M nL vw tgt lv st σ X) (K2 : ¬ (y ≤ x) → fh_Go E M nL vw (pc + 3) lv st σ X2) : fh_Go E M nL vw pc lv (.int y :: .int x :: st) σ (if y ≤ x then X else X2) := by
  obtain ⟨p, l, e, R, s, m, args, below, meth, c⟩ := M
  obtain ⟨hx, hb, hml, hown, hts, hlk, hr, hR, hK, hE, hok⟩ := C
  intro r σ' hX H locs ls hP hS hl
  by_cases hc : y ≤ x
  · rw [if_pos hc] at hX
    exact lv_icmp_ge hx hb hd ht (fun h => K1 h r σ' hX H locs ls hP hS hl) (fun h => absurd hc h)
  · rw [if_neg hc] at hX
    exact lv_icmp_ge hx hb hd ht (fun h => absurd h hc) (fun h => K2 h r σ' hX H locs ls hP hS hl)
theorem go_icmp_gt {X2 : Option (α × fh_S)} (C : fh_Cx E M cc nL own rt rm) {x y : Int32} {off : Int} {tgt : Nat} (hd : decode cc pc = .ok (.if_icmp .gt off, 3)) (ht : (pc : Int) + off = (tgt : Int)) (K1 : (y < x) → fh_Go E M nL vw tgt lv st σ X) (K2 : ¬ (y < x) → fh_Go E M nL vw (pc + 3) lv st σ X2) : fh_Go E M nL vw pc lv (.int y :: .int x :: st) σ (if y < x then X else X2) := by
  obtain ⟨p, l, e, R, s, m, args, below, meth, c⟩ := M
  obtain ⟨hx, hb, hml, hown, hts, hlk, hr, hR, hK, hE, hok⟩ := C
  intro r σ' hX H locs ls hP hS hl
  by_cases hc : y < x
  · rw [if_pos hc] at hX
    exact lv_icmp_gt hx hb hd ht (fun h => K1 h r σ' hX H locs ls hP hS hl) (fun h => absurd hc h)
  · rw [if_neg hc] at hX
    exact lv_icmp_gt hx hb hd ht (fun h => absurd h hc) (fun h => K2 h r σ' hX H locs ls hP hS hl)
theorem go_icmp_le {X2 : Option (α × fh_S)} (C : fh_Cx E M cc nL own rt rm) {x y : Int32} {off : Int} {tgt : Nat} (hd : decode cc pc = .ok (.if_icmp .le off, 3)) (ht : (pc : Int) + off = (tgt : Int)) (K1 : (x ≤ y) → fh_Go E M nL vw tgt lv st σ X) (K2 : ¬ (x ≤ y) → fh_Go E M nL vw (pc + 3) lv st σ X2) : fh_Go E M nL vw pc lv (.int y :: .int x :: st) σ (if x ≤ y then X else X2) := by
  obtain ⟨p, l, e, R, s, m, args, below, meth, c⟩ := M
  obtain ⟨hx, hb, hml, hown, hts, hlk, hr, hR, hK, hE, hok⟩ := C
  intro r σ' hX H locs ls hP hS hl
  by_cases hc : x ≤ y
  · rw [if_pos hc] at hX
    exact lv_icmp_le hx hb hd ht (fun h => K1 h r σ' hX H locs ls hP hS hl) (fun h => absurd hc h)
  · rw [if_neg hc] at hX
    exact lv_icmp_le hx hb hd ht (fun h => absurd h hc) (fun h => K2 h r σ' hX H locs ls hP hS hl)
theorem go_if_eq {X2 : Option (α × fh_S)} (C : fh_Cx E M cc nL own rt rm) {x : Int32} {off : Int} {tgt : Nat} (hd : decode cc pc = .ok (.ifCond .eq off, 3)) (ht : (pc : Int) + off = (tgt : Int)) (K1 : (x = 0) → fh_Go E M nL vw tgt lv st σ X) (K2 : ¬ (x = 0) → fh_Go E M nL vw (pc + 3) lv st σ X2) : fh_Go E M nL vw pc lv (.int x :: st) σ (if x = 0 then X else X2) := by
  obtain ⟨p, l, e, R, s, m, args, below, meth, c⟩ := M
  obtain ⟨hx, hb, hml, hown, hts, hlk, hr, hR, hK, hE, hok⟩ := C
  intro r σ' hX H locs ls hP hS hl
  by_cases hc : x = 0
  · rw [if_pos hc] at hX
    exact lv_if_eq hx hb hd ht (fun h => K1 h r σ' hX H locs ls hP hS hl) (fun h => absurd hc h)
  · rw [if_neg hc] at hX
    exact lv_if_eq hx hb hd ht (fun h => absurd h hc) (fun h => K2 h r σ' hX H locs ls hP hS hl)
theorem go_if_lt {X2 : Option (α × fh_S)} (C : fh_Cx E M cc nL own rt rm) {x : Int32} {off : Int} {tgt : Nat} (hd : decode cc pc = .ok (.ifCond .lt off, 3)) (ht : (pc : Int) + off = (tgt : Int)) (K1 : (x < 0) → fh_Go E M nL vw tgt lv st σ X) (K2 : ¬ (x < 0) → fh_Go E M nL vw (pc + 3) lv st σ X2) : fh_Go E M nL vw pc lv (.int x :: st) σ (if x < 0 then X else X2) := by
  obtain ⟨p, l, e, R, s, m, args, below, meth, c⟩ := M
  obtain ⟨hx, hb, hml, hown, hts, hlk, hr, hR, hK, hE, hok⟩ := C
  intro r σ' hX H locs ls hP hS hl
  by_cases hc : x < 0
  · rw [if_pos hc] at hX
    exact lv_if_lt hx hb hd ht (fun h => K1 h r σ' hX H locs ls hP hS hl) (fun h => absurd hc h)
  · rw [if_neg hc] at hX
    exact lv_if_lt hx hb hd ht (fun h => absurd h hc) (fun h => K2 h r σ' hX H locs ls hP hS hl)
theorem go_if_ge {X2 : Option (α × fh_S)} (C : fh_Cx E M cc nL own rt rm) {x : Int32} {off : Int} {tgt : Nat} (hd : decode cc pc = .ok (.ifCond .ge off, 3)) (ht : (pc : Int) + off = (tgt : Int)) (K1 : (0 ≤ x) → fh_Go E M nL vw tgt lv st σ X) (K2 : ¬ (0 ≤ x) → fh_Go E M nL vw (pc + 3) lv st σ X2) : fh_Go E M nL vw pc lv (.int x :: st) σ (if 0 ≤ x then X else X2) := by
  obtain ⟨p, l, e, R, s, m, args, below, meth, c⟩ := M
  obtain ⟨hx, hb, hml, hown, hts, hlk, hr, hR, hK, hE, hok⟩ := C
  intro r σ' hX H locs ls hP hS hl
  by_cases hc : 0 ≤ x
  · rw [if_pos hc] at hX
    exact lv_if_ge hx hb hd ht (fun h => K1 h r σ' hX H locs ls hP hS hl) (fun h => absurd hc h)
  · rw [if_neg hc] at hX
    exact lv_if_ge hx hb hd ht (fun h => absurd h hc) (fun h => K2 h r σ' hX H locs ls hP hS hl)
theorem go_if_gt {X2 : Option (α × fh_S)} (C : fh_Cx E M cc nL own rt rm) {x : Int32} {off : Int} {tgt : Nat} (hd : decode cc pc = .ok (.ifCond .gt off, 3)) (ht : (pc : Int) + off = (tgt : Int)) (K1 : (0 < x) → fh_Go E M nL vw tgt lv st σ X) (K2 : ¬ (0 < x) → fh_Go E M nL vw (pc + 3) lv st σ X2) : fh_Go E M nL vw pc lv (.int x :: st) σ (if 0 < x then X else X2) := by
  obtain ⟨p, l, e, R, s, m, args, below, meth, c⟩ := M
  obtain ⟨hx, hb, hml, hown, hts, hlk, hr, hR, hK, hE, hok⟩ := C
  intro r σ' hX H locs ls hP hS hl
  by_cases hc : 0 < x
  · rw [if_pos hc] at hX
    exact lv_if_gt hx hb hd ht (fun h => K1 h r σ' hX H locs ls hP hS hl) (fun h => absurd hc h)
  · rw [if_neg hc] at hX
    exact lv_if_gt hx hb hd ht (fun h => absurd h hc) (fun h => K2 h r σ' hX H locs ls hP hS hl)
theorem go_if_le {X2 : Option (α × fh_S)} (C : fh_Cx E M cc nL own rt rm) {x : Int32} {off : Int} {tgt : Nat} (hd : decode cc pc = .ok (.ifCond .le off, 3)) (ht : (pc : Int) + off = (tgt : Int)) (K1 : (x ≤ 0) → fh_Go E M nL vw tgt lv st σ X) (K2 : ¬ (x ≤ 0) → fh_Go E M nL vw (pc + 3) lv st σ X2) : fh_Go E M nL vw pc lv (.int x :: st) σ (if x ≤ 0 then X else X2) := by
  obtain ⟨p, l, e, R, s, m, args, below, meth, c⟩ := M
  obtain ⟨hx, hb, hml, hown, hts, hlk, hr, hR, hK, hE, hok⟩ := C
  intro r σ' hX H locs ls hP hS hl
  by_cases hc : x ≤ 0
  · rw [if_pos hc] at hX
    exact lv_if_le hx hb hd ht (fun h => K1 h r σ' hX H locs ls hP hS hl) (fun h => absurd hc h)
  · rw [if_neg hc] at hX
    exact lv_if_le hx hb hd ht (fun h => absurd h hc) (fun h => K2 h r σ' hX H locs ls hP hS hl)
theorem go_icmp_ne {X2 : Option (α × fh_S)} (C : fh_Cx E M cc nL own rt rm) {x y : Int32} {off : Int} {tgt : Nat} (hd : decode cc pc = .ok (.if_icmp .ne off, 3)) (ht : (pc : Int) + off = (tgt : Int)) (K1 : ¬ (x = y) → fh_Go E M nL vw tgt lv st σ X) (K2 : (x = y) → fh_Go E M nL vw (pc + 3) lv st σ X2) : fh_Go E M nL vw pc lv (.int y :: .int x :: st) σ (if x = y then X2 else X) := by
  obtain ⟨p, l, e, R, s, m, args, below, meth, c⟩ := M
  obtain ⟨hx, hb, hml, hown, hts, hlk, hr, hR, hK, hE, hok⟩ := C
  intro r σ' hX H locs ls hP hS hl
  by_cases hc : x = y
  · rw [if_pos hc] at hX
    exact lv_icmp_ne hx hb hd ht (fun h => absurd hc h) (fun h => K2 h r σ' hX H locs ls hP hS hl)
  · rw [if_neg hc] at hX
    exact lv_icmp_ne hx hb hd ht (fun h => K1 h r σ' hX H locs ls hP hS hl) (fun h => absurd h hc)
theorem go_if_ne {X2 : Option (α × fh_S)} (C : fh_Cx E M cc nL own rt rm) {x : Int32} {off : Int} {tgt : Nat} (hd : decode cc pc = .ok (.ifCond .ne off, 3)) (ht : (pc : Int) + off = (tgt : Int)) (K1 : ¬ (x = 0) → fh_Go E M nL vw tgt lv st σ X) (K2 : (x = 0) → fh_Go E M nL vw (pc + 3) lv st σ X2) : fh_Go E M nL vw pc lv (.int x :: st) σ (if x = 0 then X2 else X) := by
  obtain ⟨p, l, e, R, s, m, args, below, meth, c⟩ := M
  obtain ⟨hx, hb, hml, hown, hts, hlk, hr, hR, hK, hE, hok⟩ := C
  intro r σ' hX H locs ls hP hS hl
  by_cases hc : x = 0
  · rw [if_pos hc] at hX
    exact lv_if_ne hx hb hd ht (fun h => absurd hc h) (fun h => K2 h r σ' hX H locs ls hP hS hl)
  · rw [if_neg hc] at hX
    exact lv_if_ne hx hb hd ht (fun h => K1 h r σ' hX H locs ls hP hS hl) (fun h => absurd h hc)
theorem go_goto (C : fh_Cx E M cc nL own rt rm) {off : Int} (tgt : Nat) (hd : decode cc pc = .ok (.goto off, 3)) (ht : (pc : Int) + off = (tgt : Int)) (K : fh_Go E M nL vw tgt lv st σ X) : fh_Go E M nL vw pc lv st σ X := by
  obtain ⟨p, l, e, R, s, m, args, below, meth, c⟩ := M
  obtain ⟨hx, hb, hml, hown, hts, hlk, hr, hR, hK, hE, hok⟩ := C
  intro r σ' hX H locs ls hP hS hl
  exact lv_goto hx hb hd ht (K r σ' hX H locs ls hP hS hl)
theorem go_ifnull (C : fh_Cx E M cc nL own rt rm) {x : Nat} {off : Int} (hd : decode cc pc = .ok (.ifnull off, 3)) (K : fh_Go E M nL vw (pc + 3) lv st σ X) : fh_Go E M nL vw pc lv (.ref x :: st) σ X := by
  obtain ⟨p, l, e, R, s, m, args, below, meth, c⟩ := M
  obtain ⟨hx, hb, hml, hown, hts, hlk, hr, hR, hK, hE, hok⟩ := C
  intro r σ' hX H locs ls hP hS hl
  exact lv_ifnull hx hb hd (K r σ' hX H locs ls hP hS hl)
theorem go_ifnullN (C : fh_Cx E M cc nL own rt rm) {off : Int} (tgt : Nat) (hd : decode cc pc = .ok (.ifnull off, 3)) (ht : (pc : Int) + off = (tgt : Int)) (K : fh_Go E M nL vw tgt lv st σ X) : fh_Go E M nL vw pc lv (.null :: st) σ X := by
  obtain ⟨p, l, e, R, s, m, args, below, meth, c⟩ := M
  obtain ⟨hx, hb, hml, hown, hts, hlk, hr, hR, hK, hE, hok⟩ := C
  intro r σ' hX H locs ls hP hS hl
  exact lv_ifnullN hx hb hd ht (K r σ' hX H locs ls hP hS hl)
theorem go_ifnonnull (C : fh_Cx E M cc nL own rt rm) {x : Nat} {off : Int} (tgt : Nat) (hd : decode cc pc = .ok (.ifnonnull off, 3)) (ht : (pc : Int) + off = (tgt : Int)) (K : fh_Go E M nL vw tgt lv st σ X) : fh_Go E M nL vw pc lv (.ref x :: st) σ X := by
  obtain ⟨p, l, e, R, s, m, args, below, meth, c⟩ := M
  obtain ⟨hx, hb, hml, hown, hts, hlk, hr, hR, hK, hE, hok⟩ := C
  intro r σ' hX H locs ls hP hS hl
  exact lv_ifnonnull hx hb hd ht (K r σ' hX H locs ls hP hS hl)
theorem go_ifnonnullN (C : fh_Cx E M cc nL own rt rm) {off : Int} (hd : decode cc pc = .ok (.ifnonnull off, 3)) (K : fh_Go E M nL vw (pc + 3) lv st σ X) : fh_Go E M nL vw pc lv (.null :: st) σ X := by
  obtain ⟨p, l, e, R, s, m, args, below, meth, c⟩ := M
  obtain ⟨hx, hb, hml, hown, hts, hlk, hr, hR, hK, hE, hok⟩ := C
  intro r σ' hX H locs ls hP hS hl
  exact lv_ifnonnullN hx hb hd (K r σ' hX H locs ls hP hS hl)
theorem go_sw {X2 : Option (α × fh_S)} (C : fh_Cx E M cc nL own rt rm) {dflt lo hi off : Int} {offs : Array Int} {len : Nat} {x : Int32} (v : Int32) (tgt : Nat) (hd : decode cc pc = .ok (.tableswitch dflt lo hi offs, len)) (h1 : ¬ v.toInt < lo) (h2 : ¬ hi < v.toInt) (ho : offs[(v.toInt - lo).toNat]? = some off) (ht : (pc : Int) + off = (tgt : Int)) (K1 : fh_Go E M nL vw tgt lv st σ X) (K2 : ¬ x = v → fh_Go E M nL vw pc lv (.int x :: st) σ X2) : fh_Go E M nL vw pc lv (.int x :: st) σ (if x = v then X else X2) := by
  obtain ⟨p, l, e, R, s, m, args, below, meth, c⟩ := M
  obtain ⟨hx, hb, hml, hown, hts, hlk, hr, hR, hK, hE, hok⟩ := C
  intro r σ' hX H locs ls hP hS hl
  by_cases hc : x = v
  · rw [if_pos hc] at hX
    subst hc
    exact lv_tableIn hx hb hd h1 h2 ho ht (K1 r σ' hX H locs ls hP hS hl)
  · rw [if_neg hc] at hX
    exact K2 hc r σ' hX H locs ls hP hS hl
theorem go_swd (C : fh_Cx E M cc nL own rt rm) {dflt lo hi : Int} {offs : Array Int} {len : Nat} {x : Int32} (tgt : Nat) (hd : decode cc pc = .ok (.tableswitch dflt lo hi offs, len)) (h : x.toInt < lo ∨ hi < x.toInt) (ht : (pc : Int) + dflt = (tgt : Int)) (K : fh_Go E M nL vw tgt lv st σ X) : fh_Go E M nL vw pc lv (.int x :: st) σ X := by
  obtain ⟨p, l, e, R, s, m, args, below, meth, c⟩ := M
  obtain ⟨hx, hb, hml, hown, hts, hlk, hr, hR, hK, hE, hok⟩ := C
  intro r σ' hX H locs ls hP hS hl
  exact lv_tableOut hx hb hd h ht (K r σ' hX H locs ls hP hS hl)
theorem go_lk {X2 : Option (α × fh_S)} (C : fh_Cx E M cc nL own rt rm) {dflt off : Int} {ps : Array (Int × Int)} {len : Nat} {x : Int32} (v : Int32) (tgt : Nat) (hd : decode cc pc = .ok (.lookupswitch dflt ps, len)) (hp : (ps.toList.zip (ps.toList.drop 1)).all (fun (a, next) => a.1 < next.1) = true) (ho : Op.lookupswitch.offset ps.toList dflt v.toInt = off) (ht : (pc : Int) + off = (tgt : Int)) (K1 : fh_Go E M nL vw tgt lv st σ X) (K2 : ¬ x = v → fh_Go E M nL vw pc lv (.int x :: st) σ X2) : fh_Go E M nL vw pc lv (.int x :: st) σ (if x = v then X else X2) := by
  obtain ⟨p, l, e, R, s, m, args, below, meth, c⟩ := M
  obtain ⟨hx, hb, hml, hown, hts, hlk, hr, hR, hK, hE, hok⟩ := C
  intro r σ' hX H locs ls hP hS hl
  by_cases hc : x = v
  · rw [if_pos hc] at hX
    subst hc
    exact lv_lookup hx hb hd hp ho ht (K1 r σ' hX H locs ls hP hS hl)
  · rw [if_neg hc] at hX
    exact K2 hc r σ' hX H locs ls hP hS hl
theorem go_lkd (C : fh_Cx E M cc nL own rt rm) {dflt off : Int} {ps : Array (Int × Int)} {len : Nat} {x : Int32} (tgt : Nat) (hd : decode cc pc = .ok (.lookupswitch dflt ps, len)) (hp : (ps.toList.zip (ps.toList.drop 1)).all (fun (a, next) => a.1 < next.1) = true) (ho : Op.lookupswitch.offset ps.toList dflt x.toInt = off) (ht : (pc : Int) + off = (tgt : Int)) (K : fh_Go E M nL vw tgt lv st σ X) : fh_Go E M nL vw pc lv (.int x :: st) σ X := by
  obtain ⟨p, l, e, R, s, m, args, below, meth, c⟩ := M
  obtain ⟨hx, hb, hml, hown, hts, hlk, hr, hR, hK, hE, hok⟩ := C
  intro r σ' hX H locs ls hP hS hl
  exact lv_lookup hx hb hd hp ho ht (K r σ' hX H locs ls hP hS hl)
theorem fh_ne {x v : Int32} {z : Int} (h : ¬ x = v) (hz : v.toInt = z) : x.toInt ≠ z := fun e => h (Int32.toInt_inj.mp (e.trans hz.symm))
theorem go_aret {X : Option Nat × fh_S} {t : FieldType} (C : fh_Cx E M cc nL own (some (.array t)) rm) {k : Nat} (hX : X = (some k, σ)) (hd : decode cc pc = .ok (.areturn, 1)) : fh_Go E M nL (fh_vR E) pc lv [.ref (fh_ad E k)] σ (some X) := by
  obtain ⟨p, l, e, R, s, m, args, below, meth, c⟩ := M
  obtain ⟨hx, hb, hml, hown, hts, hlk, hr, hR, hK, hE, hok⟩ := C
  subst hX
  intro r σ' hX H locs ls hP hS hl
  cases hX
  exact W.aret hx hb hr (Or.inr ⟨_, rfl⟩) (Or.inr ⟨_, rfl⟩) (fun t ht hW => ⟨rfl, by rw [ht]; exact hP, hS.F ht⟩) hS.2.2 hd hlk
theorem go_aretN {X : Option Nat × fh_S} {t : FieldType} (C : fh_Cx E M cc nL own (some (.array t)) rm) (hX : X = (none, σ)) (hd : decode cc pc = .ok (.areturn, 1)) : fh_Go E M nL (fh_vR E) pc lv [.null] σ (some X) := by
  obtain ⟨p, l, e, R, s, m, args, below, meth, c⟩ := M
  obtain ⟨hx, hb, hml, hown, hts, hlk, hr, hR, hK, hE, hok⟩ := C
  subst hX
  intro r σ' hX H locs ls hP hS hl
  cases hX
  exact W.aret hx hb hr (Or.inr ⟨_, rfl⟩) (Or.inl rfl) (fun t ht hW => ⟨rfl, by rw [ht]; exact hP, hS.F ht⟩) hS.2.2 hd hlk
theorem go_aretS {X : Nat × fh_S} {t : String} (C : fh_Cx E M cc nL own (some (.object t)) rm) {k : Nat} (hX : X = (k, σ)) (hd : decode cc pc = .ok (.areturn, 1)) : fh_Go E M nL (fh_vS E) pc lv [.ref (fh_aK E k)] σ (some X) := by
  obtain ⟨p, l, e, R, s, m, args, below, meth, c⟩ := M
  obtain ⟨hx, hb, hml, hown, hts, hlk, hr, hR, hK, hE, hok⟩ := C
  subst hX
  intro r σ' hX H locs ls hP hS hl
  cases hX
  exact W.aret hx hb hr (Or.inl ⟨_, rfl⟩) (Or.inr ⟨_, rfl⟩) (fun t ht hW => ⟨rfl, by rw [ht]; exact hP, hS.F ht⟩) hS.2.2 hd hlk

theorem go_eq {st' : List Value} (h : st = st') (K : fh_Go E M nL vw pc lv st' σ X) : fh_Go E M nL vw pc lv st σ X := h ▸ K
theorem go_X {X' : Option (α × fh_S)} (h : X = X') (K : fh_Go E M nL vw pc lv st σ X') : fh_Go E M nL vw pc lv st σ X := h ▸ K
theorem go_none : fh_Go E M nL vw pc lv st σ none := by
  obtain ⟨p, l, e, R, s, m, args, below, meth, c⟩ := M
  intro r σ' h
  cases h
/-- other locals listed -/
theorem go_lv {lv' : List (Nat × Value)} (ks : List Nat) (h : lv_pick lv ks = lv') (K : fh_Go E M nL vw pc lv' st σ X) : fh_Go E M nL vw pc lv st σ X := by
  obtain ⟨p, l, e, R, s, m, args, below, meth, c⟩ := M
  intro r σ' hX H locs ls hP hS hl
  exact K r σ' hX H locs ls hP hS (lv_sub hl ks h)
-- the store
theorem go_iald (C : fh_Cx E M cc nL own rt rm) {X : Int32 → Option (α × fh_S)} {k : Nat} {i : Int32} (hd : decode cc pc = .ok (.iaload, 1)) (K : ∀ v, fh_Go E M nL vw (pc + 1) lv (.int v :: st) σ (X v)) : fh_Go E M nL vw pc lv (.int i :: .ref (fh_ad E k) :: st) σ ((fh_ld σ k i).bind X) := by
  obtain ⟨p, l, e, R, s, m, args, below, meth, c⟩ := M
  obtain ⟨hx, hb, hml, hown, hts, hlk, hr, hR, hK, hE, hok⟩ := C
  intro r σ' hX H locs ls hP hS hl
  unfold fh_ld fh_arr at hX
  split at hX
  · rename_i n hs
    simp only [Option.bind_some] at hX
    split at hX
    · cases hX
    · rename_i hin
      exact va_iald (D := fh_D E) (tys := fh_ty E) (cl := fh_cl) (ws := fh_ws E σ) hx hb hK hP k 0 (n := n) (f := σ k) (fh_look hs) rfl hin hd (K _ r σ' hX H locs ls hP hS hl)
  · cases hX
theorem go_iast (C : fh_Cx E M cc nL own rt rm) {X : fh_S → Option (α × fh_S)} {k : Nat} {i v : Int32} (hd : decode cc pc = .ok (.iastore, 1)) (K : ∀ σ1, fh_Go E M nL vw (pc + 1) lv st σ1 (X σ1)) : fh_Go E M nL vw pc lv (.int v :: .int i :: .ref (fh_ad E k) :: st) σ ((fh_st σ k i v).bind X) := by
  obtain ⟨p, l, e, R, s, m, args, below, meth, c⟩ := M
  obtain ⟨hx, hb, hml, hown, hts, hlk, hr, hR, hK, hE, hok⟩ := C
  intro r σ' hX H locs ls hP hS hl
  unfold fh_st fh_arr at hX
  split at hX
  · rename_i n hs
    simp only [Option.bind_some] at hX
    split at hX
    · cases hX
    · rename_i hin
      refine va_iast (D := fh_D E) (tys := fh_ty E) (cl := fh_cl) (ws := fh_ws E σ) hx hb hK hP (fh_hD hok σ) hS k 0 (n := n) (f := σ k) (fh_look hs) rfl hin hd (fun H1 locs1 hP1 _ hS1 => ?_)
      have e1 := fh_set (E := E) (σ := σ) (f := upd (σ k) i.toNatClampNeg v) hs
      exact K _ r σ' hX H1 locs1 ls (e1 ▸ hP1) hS1 hl
  · cases hX
theorem go_alen (C : fh_Cx E M cc nL own rt rm) {X : Int32 → Option (α × fh_S)} {k : Nat} (hd : decode cc pc = .ok (.arraylength, 1)) (K : ∀ v, fh_Go E M nL vw (pc + 1) lv (.int v :: st) σ (X v)) : fh_Go E M nL vw pc lv (.ref (fh_ad E k) :: st) σ ((fh_ln k).bind X) := by
  obtain ⟨p, l, e, R, s, m, args, below, meth, c⟩ := M
  obtain ⟨hx, hb, hml, hown, hts, hlk, hr, hR, hK, hE, hok⟩ := C
  intro r σ' hX H locs ls hP hS hl
  unfold fh_ln at hX
  split at hX
  · rename_i n hs
    simp only [Option.bind_some] at hX
    exact va_alen (D := fh_D E) (tys := fh_ty E) (cl := fh_cl) (ws := fh_ws E σ) hx hb hK hP k 0 (fh_look hs) rfl rfl hd (K _ r σ' hX H locs ls hP hS hl)
  · rename_i hs
    simp only [Option.bind_some] at hX
    exact va_alen (D := fh_D E) (tys := fh_ty E) (cl := fh_cl) (ws := fh_ws E σ) hx hb hK hP k 2 (fh_look hs) rfl rfl hd (K _ r σ' hX H locs ls hP hS hl)
  · cases hX
theorem go_aald (C : fh_Cx E M cc nL own rt rm) {X : Nat → Option (α × fh_S)} {k : Nat} {i : Int32} (hd : decode cc pc = .ok (.aaload, 1)) (K : ∀ q, fh_Go E M nL vw (pc + 1) lv (.ref (fh_ad E q) :: st) σ (X q)) : fh_Go E M nL vw pc lv (.int i :: .ref (fh_ad E k) :: st) σ ((fh_lr k i).bind X) := by
  obtain ⟨p, l, e, R, s, m, args, below, meth, c⟩ := M
  obtain ⟨hx, hb, hml, hown, hts, hlk, hr, hR, hK, hE, hok⟩ := C
  intro r σ' hX H locs ls hP hS hl
  unfold fh_lr at hX
  split at hX
  · rename_i hs
    split at hX
    · cases hX
    · rename_i hin
      exact va_aldq (D := fh_D E) (tys := fh_ty E) (cl := fh_cl) (ws := fh_ws E σ) hx hb hK hP k 1 (fh_look hs) rfl hin hd (K _ r σ' hX H locs ls hP hS hl)
  · cases hX
theorem go_aals (C : fh_Cx E M cc nL own rt rm) {X : Nat → Option (α × fh_S)} {k : Nat} {i : Int32} (hd : decode cc pc = .ok (.aaload, 1)) (K : ∀ q, fh_Go E M nL vw (pc + 1) lv (.ref (fh_aK E q) :: st) σ (X q)) : fh_Go E M nL vw pc lv (.int i :: .ref (fh_ad E k) :: st) σ ((fh_ls k i).bind X) := by
  obtain ⟨p, l, e, R, s, m, args, below, meth, c⟩ := M
  obtain ⟨hx, hb, hml, hown, hts, hlk, hr, hR, hK, hE, hok⟩ := C
  intro r σ' hX H locs ls hP hS hl
  unfold fh_ls at hX
  split at hX
  · rename_i hs
    split at hX
    · cases hX
    · rename_i hin
      exact va_aldq (D := fh_D E) (tys := fh_ty E) (cl := fh_cl) (ws := fh_ws E σ) hx hb hK hP k 2 (fh_look hs) rfl hin hd (K _ r σ' hX H locs ls hP hS hl)
  · cases hX
theorem fh_obj_spec {ci k : Nat} {fs : List (Option Nat)} (h : fh_obj ci k = some fs) : fh_shp k = some (.inr (.inl (ci, fs))) := by
  unfold fh_obj at h
  split at h
  · rename_i c fs' hs
    split at h
    · rename_i hc
      cases h
      rw [← hc]
      exact hs
    · cases h
  · cases h
/-- an int field read -/
theorem go_gi (C : fh_Cx E M cc nL own rt rm) {X : Int32 → Option (α × fh_S)} {k ci j N idx : Nat} {ref cn : String} {T : u_T} (hin : ∀ w ∈ u_ws cn T N, w ∈ fh_T) (hc : fh_cl[ci]? = some (cn, T, N)) (hj : j < N) (hsame : ref = (T j).1) (hlink : Cond.fieldLink own idx ref (T j).2.1 (T j).2.2.1 ∈ fh_T) (hd : decode cc pc = .ok (.getfield idx, 3)) (K : ∀ v, fh_Go E M nL vw (pc + 3) lv (.int v :: st) σ (X v)) : fh_Go E M nL vw pc lv (.ref (fh_ad E k) :: st) σ ((fh_gi σ ci k j).bind X) := by
  obtain ⟨p, l, e, R, s, m, args, below, meth, c⟩ := M
  obtain ⟨hx, hb, hml, hown, hts, hlk, hr, hR, hK, hE, hok⟩ := C
  intro r σ' hX H locs ls hP hS hl
  unfold fh_gi at hX
  cases ho : fh_obj ci k with
  | none => rw [ho] at hX; cases hX
  | some fs =>
    rw [ho] at hX
    simp only [Option.bind_some] at hX
    split at hX
    · rename_i hf
      simp only [Option.bind_some] at hX
      subst hsame
      refine va_get (D := fh_D E) (tys := fh_ty E) (cl := fh_cl) (ws := fh_ws E σ) (v := .int (σ k j)) hx hb hts hin hown hK hP k (fh_look (fh_obj_spec ho)) hc j hj (hts _ hlink) (fun _ h => h) ?_ hd (K _ r σ' hX H locs ls hP hS hl)
      simp [List.getElem?_mapIdx, hf]
    · cases hX
/-- a field that is a fixed cell -/
theorem go_gr (C : fh_Cx E M cc nL own rt rm) {X : Nat → Option (α × fh_S)} {k ci j N idx : Nat} {ref cn : String} {T : u_T} (hin : ∀ w ∈ u_ws cn T N, w ∈ fh_T) (hc : fh_cl[ci]? = some (cn, T, N)) (hj : j < N) (hsame : ref = (T j).1) (hlink : Cond.fieldLink own idx ref (T j).2.1 (T j).2.2.1 ∈ fh_T) (hd : decode cc pc = .ok (.getfield idx, 3)) (K : ∀ q, fh_Go E M nL vw (pc + 3) lv (.ref (fh_ad E q) :: st) σ (X q)) : fh_Go E M nL vw pc lv (.ref (fh_ad E k) :: st) σ ((fh_gr ci k j).bind X) := by
  obtain ⟨p, l, e, R, s, m, args, below, meth, c⟩ := M
  obtain ⟨hx, hb, hml, hown, hts, hlk, hr, hR, hK, hE, hok⟩ := C
  intro r σ' hX H locs ls hP hS hl
  unfold fh_gr at hX
  cases ho : fh_obj ci k with
  | none => rw [ho] at hX; cases hX
  | some fs =>
    rw [ho] at hX
    simp only [Option.bind_some] at hX
    split at hX
    · rename_i q hf
      simp only [Option.bind_some] at hX
      subst hsame
      refine va_get (D := fh_D E) (tys := fh_ty E) (cl := fh_cl) (ws := fh_ws E σ) (v := .ref (fh_ad E q)) hx hb hts hin hown hK hP k (fh_look (fh_obj_spec ho)) hc j hj (hts _ hlink) (fun _ h => h) ?_ hd (K _ r σ' hX H locs ls hP hS hl)
      simp [List.getElem?_mapIdx, hf]
    · cases hX
theorem fh_fset {E : fh_E} {f : Nat → Int32} {fs : List (Option Nat)} {j : Nat} {v : Int32} (h : fs[j]? = some none) : (fs.mapIdx (fun j o => match o with
    | none => Value.int (f j)
    | some q => .ref (fh_ad E q))).set j (.int v) = fs.mapIdx (fun j' o => match o with
    | none => Value.int (upd f j v j')
    | some q => .ref (fh_ad E q)) := by
  have hl : j < fs.length := (List.getElem?_eq_some_iff.mp h).1
  apply List.ext_getElem?
  intro i
  by_cases hi : i = j
  · subst hi
    rw [List.getElem?_set_self (by simpa using hl), List.getElem?_mapIdx, h]
    simp [upd]
  · rw [List.getElem?_set_ne (Ne.symm hi), List.getElem?_mapIdx, List.getElem?_mapIdx]
    cases fs[i]? with
    | none => rfl
    | some o => cases o <;> simp [upd, hi]
theorem go_pf (C : fh_Cx E M cc nL own rt rm) {X : fh_S → Option (α × fh_S)} {k ci j N idx : Nat} {ref cn : String} {T : u_T} {v : Int32} (ty0 : Nat → FieldType) (hty : ∀ k, k < N → parseFieldDescriptor (T k).2.2.1 = some (ty0 k)) (hnm : ∀ a, a < N → ∀ b, b < N → a ≠ b → (T a).2.1 ≠ (T b).2.1) (hin : ∀ w ∈ u_ws cn T N, w ∈ fh_T) (hc : fh_cl[ci]? = some (cn, T, N)) (hj : j < N) (hsame : ref = (T j).1) (hlink : Cond.fieldLink own idx ref (T j).2.1 (T j).2.2.1 ∈ fh_T) (hfin : (T j).2.2.2 = false) (hi : ty0 j = .int) (hd : decode cc pc = .ok (.putfield idx, 3)) (K : ∀ σ1, fh_Go E M nL vw (pc + 3) lv st σ1 (X σ1)) : fh_Go E M nL vw pc lv (.int v :: .ref (fh_ad E k) :: st) σ ((fh_pf σ ci k j v).bind X) := by
  obtain ⟨p, l, e, R, s, m, args, below, meth, c⟩ := M
  obtain ⟨hx, hb, hml, hown, hts, hlk, hr, hR, hK, hE, hok⟩ := C
  intro r σ' hX H locs ls hP hS hl
  unfold fh_pf at hX
  cases ho : fh_obj ci k with
  | none => rw [ho] at hX; cases hX
  | some fs =>
    rw [ho] at hX
    simp only [Option.bind_some] at hX
    split at hX
    · rename_i hf
      simp only [Option.bind_some] at hX
      subst hsame
      have hsh := fh_obj_spec ho
      refine va_put (D := fh_D E) (tys := fh_ty E) (cl := fh_cl) (ws := fh_ws E σ) (ty := .int) hx hb hts hin ty0 hty hnm hown hK hP (fh_hD hok σ) hS k (fh_look hsh) hc j hj (hts _ hlink) (fun _ h => h) hfin (by rw [hty j hj, hi]) rfl rfl (by rw [List.length_mapIdx]; exact (List.getElem?_eq_some_iff.mp hf).1) hd (fun H1 locs1 hP1 _ hS1 => ?_)
      rw [fh_fset hf] at hP1
      have e1 := fh_set (E := E) (σ := σ) (f := upd (σ k) j v) hsh
      exact K _ r σ' hX H1 locs1 ls (e1 ▸ hP1) hS1 hl
    · cases hX
theorem go_pz (C : fh_Cx E M cc nL own rt rm) {X : fh_S → Option (α × fh_S)} {k ci j N idx : Nat} {ref cn : String} {T : u_T} {v : Int32} (ty0 : Nat → FieldType) (hty : ∀ k, k < N → parseFieldDescriptor (T k).2.2.1 = some (ty0 k)) (hnm : ∀ a, a < N → ∀ b, b < N → a ≠ b → (T a).2.1 ≠ (T b).2.1) (hin : ∀ w ∈ u_ws cn T N, w ∈ fh_T) (hc : fh_cl[ci]? = some (cn, T, N)) (hj : j < N) (hsame : ref = (T j).1) (hlink : Cond.fieldLink own idx ref (T j).2.1 (T j).2.2.1 ∈ fh_T) (hfin : (T j).2.2.2 = false) (hi : ty0 j = .boolean) (hd : decode cc pc = .ok (.putfield idx, 3)) (K : ∀ σ1, fh_Go E M nL vw (pc + 3) lv st σ1 (X σ1)) : fh_Go E M nL vw pc lv (.int v :: .ref (fh_ad E k) :: st) σ ((fh_pz σ ci k j v).bind X) := by
  obtain ⟨p, l, e, R, s, m, args, below, meth, c⟩ := M
  obtain ⟨hx, hb, hml, hown, hts, hlk, hr, hR, hK, hE, hok⟩ := C
  intro r σ' hX H locs ls hP hS hl
  unfold fh_pz at hX
  split at hX
  case isFalse => cases hX
  rename_i hv
  unfold fh_pf at hX
  cases ho : fh_obj ci k with
  | none => rw [ho] at hX; cases hX
  | some fs =>
    rw [ho] at hX
    simp only [Option.bind_some] at hX
    split at hX
    · rename_i hf
      simp only [Option.bind_some] at hX
      subst hsame
      have hsh := fh_obj_spec ho
      refine va_put (D := fh_D E) (tys := fh_ty E) (cl := fh_cl) (ws := fh_ws E σ) (ty := .boolean) hx hb hts hin ty0 hty hnm hown hK hP (fh_hD hok σ) hS k (fh_look hsh) hc j hj (hts _ hlink) (fun _ h => h) hfin (by rw [hty j hj, hi]) (by rcases hv with rfl | rfl <;> rfl) (by rcases hv with rfl | rfl <;> rfl) (by rw [List.length_mapIdx]; exact (List.getElem?_eq_some_iff.mp hf).1) hd (fun H1 locs1 hP1 _ hS1 => ?_)
      rw [fh_fset hf] at hP1
      have e1 := fh_set (E := E) (σ := σ) (f := upd (σ k) j v) hsh
      exact K _ r σ' hX H1 locs1 ls (e1 ▸ hP1) hS1 hl
    · cases hX
-- the table of kinds
theorem go_tu (C : fh_Cx E M cc nL own rt rm) {idx : Nat} (hlink : Cond.fieldLink own idx "FollowedHours" "UPPER_KIND" "[I" ∈ fh_T) (hd : decode cc pc = .ok (.getstatic idx, 3)) (K : fh_Go E M nL vw (pc + 3) lv (.ref (fh_tu E) :: st) σ X) : fh_Go E M nL vw pc lv st σ X := by
  obtain ⟨p, l, e, R, s, m, args, below, meth, c⟩ := M
  obtain ⟨hx, hb, hml, hown, hts, hlk, hr, hR, hK, hE, hok⟩ := C
  intro r σ' hX H locs ls hP hS hl
  exact va_gets hx hb hE.1 hS hown (hts _ hlink) (fun _ h => h) hd (K r σ' hX H locs ls hP hS hl)
theorem go_tuN (C : fh_Cx E M cc nL own rt rm) {idx : Nat} (hlink : Cond.fieldLinkNest own idx "FollowedHours" "UPPER_KIND" "[I" "FollowedHours" ∈ fh_nest) (hd : decode cc pc = .ok (.getstatic idx, 3)) (K : fh_Go E M nL vw (pc + 3) lv (.ref (fh_tu E) :: st) σ X) : fh_Go E M nL vw pc lv st σ X := by
  obtain ⟨p, l, e, R, s, m, args, below, meth, c⟩ := M
  obtain ⟨hx, hb, hml, hown, hts, hlk, hr, hR, hK, hE, hok⟩ := C
  intro r σ' hX H locs ls hP hS hl
  exact va_getsN hx hb hE.1 hS hown (va_Nw.use rfl (hE.2.2.2.2.2.2 _ hlink)) (fun _ h => h) hd (K r σ' hX H locs ls hP hS hl)
theorem go_tl (C : fh_Cx E M cc nL own rt rm) (hd : decode cc pc = .ok (.arraylength, 1)) (K : fh_Go E M nL vw (pc + 1) lv (.int 7 :: st) σ X) : fh_Go E M nL vw pc lv (.ref (fh_tu E) :: st) σ X := by
  obtain ⟨p, l, e, R, s, m, args, below, meth, c⟩ := M
  obtain ⟨hx, hb, hml, hown, hts, hlk, hr, hR, hK, hE, hok⟩ := C
  intro r σ' hX H locs ls hP hS hl
  exact va_tlen hx hb hE.2.1 hS rfl hd (K r σ' hX H locs ls hP hS hl)
theorem go_tk (C : fh_Cx E M cc nL own rt rm) {X : Int32 → Option (α × fh_S)} {i : Int32} (hd : decode cc pc = .ok (.iaload, 1)) (K : ∀ v, fh_Go E M nL vw (pc + 1) lv (.int v :: st) σ (X v)) : fh_Go E M nL vw pc lv (.int i :: .ref (fh_tu E) :: st) σ ((fh_tk i).bind X) := by
  obtain ⟨p, l, e, R, s, m, args, below, meth, c⟩ := M
  obtain ⟨hx, hb, hml, hown, hts, hlk, hr, hR, hK, hE, hok⟩ := C
  intro r σ' hX H locs ls hP hS hl
  unfold fh_tk at hX
  split at hX
  · cases hX
  · rename_i hin
    exact va_ti hx hb hE.2.1 hS hin rfl hd (K _ r σ' hX H locs ls hP hS hl)
theorem go_ldcS (C : fh_Cx E M cc nL own rt rm) {idx : Nat} {tx : String} (i : Nat) (hq : fh_so[i]? = some (own, idx, tx)) (hd : decode cc pc = .ok (.ldc idx, 2)) (K : fh_Go E M nL vw (pc + 2) lv (.ref (fh_aK E i) :: st) σ X) : fh_Go E M nL vw pc lv st σ X := by
  obtain ⟨p, l, e, R, s, m, args, below, meth, c⟩ := M
  obtain ⟨hx, hb, hml, hown, hts, hlk, hr, hR, hK, hE, hok⟩ := C
  intro r σ' hX H locs ls hP hS hl
  exact va_ldcS hx hb hown (hE.2.2.2.2.2.1 i _ hq) hd (K r σ' hX H locs ls hP hS hl)
-- ends
theorem go_iret {X : Int32 × fh_S} (C : fh_Cx E M cc nL own (some .int) rm) {v : Int32} (hX : X = (v, σ)) (hd : decode cc pc = .ok (.ireturn, 1)) : fh_Go E M nL fh_vI pc lv [.int v] σ (some X) := by
  obtain ⟨p, l, e, R, s, m, args, below, meth, c⟩ := M
  obtain ⟨hx, hb, hml, hown, hts, hlk, hr, hR, hK, hE, hok⟩ := C
  subst hX
  intro r σ' hX H locs ls hP hS hl
  cases hX
  exact W.iret hx hb hr (fun t ht hW => ⟨rfl, by rw [ht]; exact hP, hS.F ht⟩) hS.2.2 hd hlk
theorem go_zret (C : fh_Cx E M cc nL own (some .boolean) rm) {v : Int32} (hd : decode cc pc = .ok (.ireturn, 1)) : fh_Go E M nL fh_vI pc lv [.int v] σ (fh_rz v σ) := by
  obtain ⟨p, l, e, R, s, m, args, below, meth, c⟩ := M
  obtain ⟨hx, hb, hml, hown, hts, hlk, hr, hR, hK, hE, hok⟩ := C
  intro r σ' hX H locs ls hP hS hl
  unfold fh_rz at hX
  split at hX
  · rename_i hv
    cases hX
    exact W.zret hx hb hr (by rcases hv with rfl | rfl <;> rfl) (fun t ht hW => ⟨rfl, by rw [ht]; exact hP, hS.F ht⟩) hS.2.2 hd hlk
  · cases hX
theorem go_vret {X : Unit × fh_S} (C : fh_Cx E M cc nL own none rm) (hX : X = ((), σ)) (hd : decode cc pc = .ok (.return_, 1)) : fh_Go E M nL fh_vU pc lv [] σ (some X) := by
  obtain ⟨p, l, e, R, s, m, args, below, meth, c⟩ := M
  obtain ⟨hx, hb, hml, hown, hts, hlk, hr, hR, hK, hE, hok⟩ := C
  subst hX
  intro r σ' hX H locs ls hP hS hl
  cases hX
  exact W.vret hx hb hr (fun t ht hW => ⟨rfl, by rw [ht]; exact hP, hS.F ht⟩) hS.2.2 hd hlk
theorem go_lret {X : Int64 × fh_S} (C : fh_Cx E M cc nL own (some .long) rm) {v : Int64} (hX : X = (v, σ)) (hd : decode cc pc = .ok (.lreturn, 1)) : fh_Go E M nL fh_vL pc lv [.long v] σ (some X) := by
  obtain ⟨p, l, e, R, s, m, args, below, meth, c⟩ := M
  obtain ⟨hx, hb, hml, hown, hts, hlk, hr, hR, hK, hE, hok⟩ := C
  subst hX
  intro r σ' hX H locs ls hP hS hl
  cases hX
  exact W.lret hx hb hr (fun t ht hW => ⟨rfl, by rw [ht]; exact hP, hS.F ht⟩) hS.2.2 hd hlk
end FHGO
end
section
section FHCALL
theorem fh_gw {y : MethodName} {b : ByteArray} {n : Nat} {ret : Option FieldType} (h : Cond.code y b n ret ∈ fh_T) : GoodIn fh_T (fh_w y b n ret) := by
  intro w hw
  rcases List.mem_cons.mp hw with e | e
  · subst e; exact ⟨h, fh_good h⟩
  · exact ⟨e, fh_good e⟩
theorem fh_blind {E : fh_E} {σ : fh_S} {As : List Value} : FrameBlind (va_Pc As (fh_Wd E σ)) := fun a U g mk q => by
  obtain ⟨q0, q1, q2, q3⟩ := q
  exact ⟨q0, q1, va_K.moved (u := U) (U := U.calling g mk a) (Vm.Alike.refl U.vm) q2, q3.1.moved (U := U.calling g mk a) (Vm.Alike.refl U.vm), q3.2.1.moved (U := U.calling g mk a) (Vm.Alike.refl U.vm), q3.2.2.1.moved (U := U.calling g mk a) (Vm.Alike.refl U.vm), q3.2.2.2.1.moved (U := U.calling g mk a) (Vm.Alike.refl U.vm), fun i hi => ⟨(q3.2.2.2.2.1 i hi).1.moved (U := U.calling g mk a) (Vm.Alike.refl U.vm), (q3.2.2.2.2.1 i hi).2.1.moved (U := U.calling g mk a) (Vm.Alike.refl U.vm), (q3.2.2.2.2.1 i hi).2.2.1.moved (U := U.calling g mk a) (Vm.Alike.refl U.vm), (q3.2.2.2.2.1 i hi).2.2.2.moved (U := U.calling g mk a) (Vm.Alike.refl U.vm)⟩, fun i q hq => (q3.2.2.2.2.2.1 i q hq).same (U := U.calling g mk a) rfl, fun w hw => va_Nw.same (by
    simp only [fh_nest, List.mem_cons, List.not_mem_nil, or_false] at hw
    rcases hw with rfl | rfl | rfl | rfl | rfl | rfl | rfl | rfl | rfl <;> rfl) (u := U) (U := U.calling g mk a) rfl (q3.2.2.2.2.2.2 w hw)⟩
theorem fh_after {E : fh_E} {p : Program} {l : Launch} {e : Env} {R : Room} {s : State} {m : MethodId} {args : Array Value} {below : List Frame} {meth : Method} {c : Code} {H : Heap} {locs : List Loc} {Q : State → Prop} {pc : Nat} {ls : Array Slot} {st0 rest : List Value} {a : Array Value} {v : Option Value} {σ1 : fh_S}
    (hr : va_Run p l e R s m args below meth c H locs 0 0 0 0 (F0 m pc ls st0) rest (fh_Q E v σ1 a) (fh_A E)) (hS : va_S (fh_A E) s.heap H locs)
    (kk : ∀ (H1 : Heap) (locs1 : List Loc), va_P (fh_D E) fh_cl (fh_ws E σ1) H1 → va_S (fh_A E) s.heap H1 locs1 → W p l e R s m args below meth c H1 locs1 0 0 Q (F0 m (pc + 3) ls (v.toList ++ rest))) : W p l e R s m args below meth c H locs 0 0 Q (F0 m pc ls st0) := by
  intro T hT X
  obtain ⟨v', st₀, t, T', L, h0, X', hL, e1, e2, ⟨hv, hP1, hz, hk⟩, st⟩ := hr T hT X
  cases hv
  rw [h0] at hz hk
  obtain ⟨t2, a1, b1⟩ := kk T'.heap (locs ++ L) (by rw [e1]; exact hP1)
    ⟨Nat.le_trans hS.1 (by rw [e1]; exact hz), fun q h1 h2 => by rw [e1, hk q (Nat.lt_of_lt_of_le h1 hS.1) h2]; exact hS.2.1 q h1 h2, fun q hq => by
      rcases List.mem_append.mp hq with h | h
      · exact hS.2.2 q h
      · exact hL q h⟩ T' rfl X'
  exact ⟨t2, st t2 a1, b1⟩
/-- a method's contract -/
def fh_Met {β : Type} (E : fh_E) (l : Launch) (y : MethodName) (b : ByteArray) (n : Nat) (ret : Option FieldType) (rm : Room) (vw : β → Option Value) (As : List Value) (σ : fh_S) (F : Option (β × fh_S)) : Prop :=
  ∀ (r : β) (σ' : fh_S), F = some (r, σ') → Met l y (fh_w y b n ret) rm (va_Pc As (fh_Wd E σ)) (fh_Q E (vw r) σ') 0 0 (fh_A E)
variable {α β : Type} {E : fh_E} {M : fh_M} {cc : ByteArray} {nL : Nat} {own : String} {rt : Option FieldType} {rm : Room} {vw : α → Option Value} {pc : Nat} {lv : List (Nat × Value)} {st st0 : List Value} {σ : fh_S} {X : β → fh_S → Option (α × fh_S)}
variable {y : MethodName} {bytes : ByteArray} {maxL n idx : Nat} {ret : Option FieldType} {rm' : Room} {vw' : β → Option Value} {F : Option (β × fh_S)}
theorem go_callS (C : fh_Cx E M cc nL own rt rm) (As : List Value) (hM : fh_Met E M.2.1 y bytes maxL ret rm' vw' As σ F) (hst : st0 = As.reverse ++ st)
    (hw : Cond.methodLink own idx y ∈ fh_T ∧ Cond.static y ∈ fh_T ∧ Cond.initialized y.cls ∈ fh_T ∧ Cond.code y bytes maxL ret ∈ fh_T)
    (hd' : y.cls ≠ "java/lang/invoke/MethodHandle" ∧ y.cls ≠ "java/lang/invoke/VarHandle" ∧ (parseMethodDescriptor y.desc).map (fun d => d.parameters.length) = some n) (hn : As.length = n)
    (hR : (rm'.frames + 1 ≤ rm.frames ∧ 8 + (maxL + 11) + rm'.locals ≤ rm.locals) ∧ rm'.cells = 0 ∧ rm'.slots = 0) (hcat : (st.map fun v => v.category).sum ≤ 8) (hd : decode cc pc = .ok (.invokestatic idx, 3))
    (K : ∀ (r : β) (σ1 : fh_S), fh_Go E M nL vw (pc + 3) lv ((vw' r).toList ++ st) σ1 (X r σ1)) : fh_Go E M nL vw pc lv st0 σ (fh_cb F X) := by
  obtain ⟨p, l, e, R, s, m, args, below, meth, c⟩ := M
  obtain ⟨hx, hb, hml, hown, hts, hlk, hr, hRR, hK, hE, hok⟩ := C
  intro r σ' hX H locs ls hP hS hl
  cases hF : F with
  | none => rw [hF] at hX; cases hX
  | some q =>
    obtain ⟨r1, σ1⟩ := q
    rw [hF] at hX
    subst hRR
    subst hst
    have hG : GoodIn fh_T (va_wsS own idx y (fh_w y bytes maxL ret)) := by
      intro w hw'
      unfold va_wsS at hw'
      rcases List.mem_append.mp hw' with h | h
      · simp only [List.mem_cons, List.not_mem_nil, or_false] at h
        rcases h with rfl | rfl | rfl
        · exact ⟨hw.1, fh_good hw.1⟩
        · exact ⟨hw.2.1, fh_good hw.2.1⟩
        · exact ⟨hw.2.2.1, fh_good hw.2.2.1⟩
      · exact fh_gw hw.2.2.2 w h
    refine fh_after (va_runS (As := As) (rest := st) (Ts := fh_T) ⟨hx, hb, hml, hown, hts⟩ (hM r1 σ1 hF) (va_cwS n hts hG rfl hR.2.1 hR.2.2 hd' hR.1) ⟨fh_blind, fun U hU hW => ⟨rfl, by rw [hU]; exact hP, va_K.moved hW.alike hK, fh_X_go hE hS hU hW⟩⟩ rfl hn hl.1 rfl (lv_room hcat) hd ⟨Nat.zero_le _, Nat.zero_le _⟩) hS (fun H1 locs1 hP1 hS1 => ?_)
    exact K r1 σ1 r σ' hX H1 locs1 ls hP1 hS1 hl
theorem go_callN (C : fh_Cx E M cc nL own rt rm) (As : List Value) (host : String) (hM : fh_Met E M.2.1 y bytes maxL ret rm' vw' As σ F) (hst : st0 = As.reverse ++ st)
    (hw : Cond.methodLinkNest own idx y host ∈ fh_nest ∧ Cond.static y ∈ fh_T ∧ Cond.initialized y.cls ∈ fh_T ∧ Cond.code y bytes maxL ret ∈ fh_T)
    (hd' : y.cls ≠ "java/lang/invoke/MethodHandle" ∧ y.cls ≠ "java/lang/invoke/VarHandle" ∧ (parseMethodDescriptor y.desc).map (fun d => d.parameters.length) = some n) (hn : As.length = n)
    (hR : (rm'.frames + 1 ≤ rm.frames ∧ 8 + (maxL + 11) + rm'.locals ≤ rm.locals) ∧ rm'.cells = 0 ∧ rm'.slots = 0) (hcat : (st.map fun v => v.category).sum ≤ 8) (hd : decode cc pc = .ok (.invokestatic idx, 3))
    (K : ∀ (r : β) (σ1 : fh_S), fh_Go E M nL vw (pc + 3) lv ((vw' r).toList ++ st) σ1 (X r σ1)) : fh_Go E M nL vw pc lv st0 σ (fh_cb F X) := by
  obtain ⟨p, l, e, R, s, m, args, below, meth, c⟩ := M
  obtain ⟨hx, hb, hml, hown, hts, hlk, hr, hRR, hK, hE, hok⟩ := C
  intro r σ' hX H locs ls hP hS hl
  cases hF : F with
  | none => rw [hF] at hX; cases hX
  | some q =>
    obtain ⟨r1, σ1⟩ := q
    rw [hF] at hX
    subst hRR
    subst hst
    refine fh_after (va_runSN (As := As) (rest := st) (Ts := fh_T) (host := host) ⟨hx, hb, hml, hown, hts⟩ (hM r1 σ1 hF) ⟨va_cnB n hts (fh_gw hw.2.2.2) rfl hR.2.1 hR.2.2 (hE.2.2.2.2.2.2 _ hw.1) (hts _ hw.2.2.1) hd' hR.1, hts _ hw.2.1, trivial⟩ ⟨fh_blind, fun U hU hW => ⟨rfl, by rw [hU]; exact hP, va_K.moved hW.alike hK, fh_X_go hE hS hU hW⟩⟩ rfl hn hl.1 rfl (lv_room hcat) hd ⟨Nat.zero_le _, Nat.zero_le _⟩) hS (fun H1 locs1 hP1 hS1 => ?_)
    exact K r1 σ1 r σ' hX H1 locs1 ls hP1 hS1 hl
theorem fh_recv {E : fh_E} {s : State} {H : Heap} {σ : fh_S} {ci k N : Nat} {cn : String} {T : u_T} (hK : va_K (fh_D E) fh_cl (fh_ty E) s) (hP : va_P (fh_D E) fh_cl (fh_ws E σ) H) (hc : fh_cl[ci]? = some (cn, T, N)) (h : fh_isC ci k = true) : ∃ cell : Cell, H[fh_ad E k]? = some cell ∧ cell.vm.isStatics = false ∧ s.vm.findClass cn = some cell.cls := by
  unfold fh_isC at h
  cases ho : fh_obj ci k with
  | none => rw [ho] at h; cases h
  | some fs => exact va_recv hK hP hc (fh_look (E := E) (σ := σ) (fh_obj_spec ho))
theorem go_callV (C : fh_Cx E M cc nL own rt rm) (As : List Value) {k ci N : Nat} {T : u_T} (hM : fh_Met E M.2.1 y bytes maxL ret rm' vw' (.ref (fh_ad E k) :: As) σ F) (hq : ∀ q, F = some q → fh_isC ci k = true) (hst : st0 = As.reverse ++ .ref (fh_ad E k) :: st) (hc : fh_cl[ci]? = some (y.cls, T, N))
    (hw : Cond.methodLink own idx y ∈ fh_T ∧ Cond.instanceMethod y ∈ fh_T ∧ Cond.selects y.cls y y ∈ fh_T ∧ Cond.initialized y.cls ∈ fh_T ∧ Cond.code y bytes maxL ret ∈ fh_T)
    (hd' : y.cls ≠ "java/lang/invoke/MethodHandle" ∧ y.cls ≠ "java/lang/invoke/VarHandle" ∧ (parseMethodDescriptor y.desc).map (fun d => d.parameters.length) = some n) (hn : As.length = n)
    (hR : (rm'.frames + 1 ≤ rm.frames ∧ 8 + (maxL + 11) + rm'.locals ≤ rm.locals) ∧ rm'.cells = 0 ∧ rm'.slots = 0) (hcat : (st.map fun v => v.category).sum ≤ 8) (hd : decode cc pc = .ok (.invokevirtual idx, 3))
    (K : ∀ (r : β) (σ1 : fh_S), fh_Go E M nL vw (pc + 3) lv ((vw' r).toList ++ st) σ1 (X r σ1)) : fh_Go E M nL vw pc lv st0 σ (fh_cb F X) := by
  obtain ⟨p, l, e, R, s, m, args, below, meth, c⟩ := M
  obtain ⟨hx, hb, hml, hown, hts, hlk, hr, hRR, hK, hE, hok⟩ := C
  intro r σ' hX H locs ls hP hS hl
  cases hF : F with
  | none => rw [hF] at hX; cases hX
  | some q =>
    have hqq := hq q hF
    obtain ⟨r1, σ1⟩ := q
    rw [hF] at hX
    subst hRR
    subst hst
    have hG : GoodIn fh_T (wsV own idx y.cls y (fh_w y bytes maxL ret)) := by
      intro w hw'
      unfold wsV at hw'
      rcases List.mem_append.mp hw' with h | h
      · simp only [List.mem_cons, List.not_mem_nil, or_false] at h
        rcases h with rfl | rfl | rfl | rfl
        · exact ⟨hw.1, fh_good hw.1⟩
        · exact ⟨hw.2.1, fh_good hw.2.1⟩
        · exact ⟨hw.2.2.1, fh_good hw.2.2.1⟩
        · exact ⟨hw.2.2.2.1, fh_good hw.2.2.2.1⟩
      · exact fh_gw hw.2.2.2.2 w h
    refine fh_after (va_runV (As := As) (rest := st) (Ts := fh_T) (C := y.cls) ⟨hx, hb, hml, hown, hts⟩ (hM r1 σ1 hF) (cwV n hts hG rfl hR.2.1 hR.2.2 ⟨rfl, hd'⟩ hR.1) ⟨fh_blind, fh_recv hK hP hc hqq, fun U hU hW => ⟨rfl, by rw [hU]; exact hP, va_K.moved hW.alike hK, fh_X_go hE hS hU hW⟩⟩ rfl hn hl.1 rfl (lv_room hcat) hd ⟨Nat.zero_le _, Nat.zero_le _⟩) hS (fun H1 locs1 hP1 hS1 => ?_)
    exact K r1 σ1 r σ' hX H1 locs1 ls hP1 hS1 hl
/-- the JVM's own copy of a part of an int[] -/
theorem go_cp {X : fh_S → Option (α × fh_S)} (C : fh_Cx E M cc nL own rt rm) {k1 k2 : Nat} {sp dp n : Int32} (hw : Cond.methodLink own idx arraycopyName ∈ fh_T ∧ Cond.native arraycopyName ∈ fh_T ∧ Cond.static arraycopyName ∈ fh_T ∧ Cond.initialized "java/lang/System" ∈ fh_T) (hR : 1 ≤ rm.frames ∧ (st.map fun v => v.category).sum + (nativeFrameWords "java/lang/System" "arraycopy" 5 + 11) ≤ rm.locals) (hd : decode cc pc = .ok (.invokestatic idx, 3))
    (K : ∀ σ1, fh_Go E M nL vw (pc + 3) lv st σ1 (X σ1)) : fh_Go E M nL vw pc lv (.int n :: .int dp :: .ref (fh_ad E k2) :: .int sp :: .ref (fh_ad E k1) :: st) σ ((fh_cp σ k1 sp k2 dp n).bind X) := by
  obtain ⟨p, l, e, R, s, m, args, below, meth, c⟩ := M
  obtain ⟨hx, hb, hml, hown, hts, hlk, hr, hRR, hK, hE, hok⟩ := C
  intro r σ' hX H locs ls hP hS hl
  subst hRR
  unfold fh_cp fh_arr at hX
  split at hX
  · rename_i n1 h1
    simp only [Option.bind_some] at hX
    split at hX
    · rename_i n2 h2
      simp only [Option.bind_some] at hX
      split at hX
      · cases hX
      · rename_i hin
        simp only [not_or, Nat.not_lt] at hin
        refine va_copyi (D := fh_D E) (tys := fh_ty E) (cl := fh_cl) (ws := fh_ws E σ) (ty := .int) hx hb (by rw [hml, hl.1]) hown (hts _ hw.1) (hts _ hw.2.1) (hts _ hw.2.2.1) (hts _ hw.2.2.2) hK hP (fh_hD hok σ) hS k1 k2 0 0 (fh_look h1) (fh_look h2) rfl rfl rfl hin.1 hin.2.1 hin.2.2.1 hin.2.2.2.1 hin.2.2.2.2 (fun _ _ => rfl) hR.1 hR.2 hd (fun H1 locs1 hP1 _ hS1 => ?_)
        have e1 := fh_set (E := E) (σ := σ) (f := va_cpy (σ k1) (σ k2) sp.toNatClampNeg dp.toNatClampNeg n.toNatClampNeg) h2
        exact K _ r σ' hX H1 locs1 ls (e1 ▸ hP1) hS1 hl
    · cases hX
  · cases hX
/-- the contract out of the body -/
theorem fh_met {γ : Type} {E : fh_E} {l : Launch} {y : MethodName} {b : ByteArray} {n : Nat} {ret : Option FieldType} {rm : Room} {vw : γ → Option Value} {As : List Value} {σ : fh_S} {F : Option (γ × fh_S)} (hok : fh_ok E) (hy : plainName y.cls = true) (hlen : (lg_sl As).length ≤ n)
    (G : ∀ M : fh_M, M.2.1 = l → fh_Cx E M b n y.cls ret rm → fh_Go E M n vw 0 (lv_args 0 As) [] σ F) : fh_Met E l y b n ret rm vw As σ F := by
  intro r σ' hF
  refine Met.ofW (cc := b) (maxL := n) (ret := ret) hy rfl ?_
  intro p e s m args below meth c s₁ B hml hv
  obtain ⟨rfl, hP, hK, hE⟩ := hv
  have hts := atoms_spec (ws := fh_w y b n ret) B.pre
  have hl := lv_entry As (n := n) hlen
  rw [lg_entry_eq]
  exact G (p, l, e, (headSpec (fh_w y b n ret) rm).room, s, m, As.toArray, below, meth, c) rfl ⟨B.exec, B.bytes, hml, findClass_of_methodNamed B.named, fun w hw => hts w (List.mem_cons_of_mem _ hw), B.notSynchronized, B.returns, rfl, hK, hE, hok⟩ r σ' hF s.heap [] _ hP va_S.rf hl
end FHCALL
end
section
section FHMORE
theorem fh_cok {E : fh_E} {M : fh_M} {cc : ByteArray} {nL : Nat} {own : String} {rt : Option FieldType} {rm : Room} (C : fh_Cx E M cc nL own rt rm) : fh_ok E := by
  obtain ⟨p, l, e, R, s, m, args, below, meth, c⟩ := M
  exact C.2.2.2.2.2.2.2.2.2.2
def fh_fu : Nat := 5000
/-- a loop, so many times at most -/
def fh_fx {ρ : Type} (bot : ρ) (b : ρ → ρ) : Nat → ρ
  | 0 => bot
  | n + 1 => b (fh_fx bot b n)
theorem go_fx {ρ : Type} {bot : ρ} {b : ρ → ρ} (P : ρ → Prop) (h0 : P bot) (hs : ∀ r, P r → P (b r)) : ∀ n, P (fh_fx bot b n)
  | 0 => h0
  | n + 1 => hs _ (go_fx P h0 hs n)
/-- a place where ways meet -/
def fh_jn {γ δ : Type} (k : γ) (f : γ → δ) : δ := f k
def fh_on {β : Type} (o : Option Nat) (a : β) (f : Nat → β) : β := match o with
  | none => a
  | some k => f k
def fh_sg {β : Type} (i : Nat) (x : Option β) : Option β := if i < 26 then x else none
def fh_sb (i : Nat) (j : Int32) : Option Int32 := if i < 26 then (if j < 0 ∨ fh_sl i ≤ j.toNatClampNeg then none else some ((fh_tx i).getD j.toNatClampNeg 0)) else none
def fh_rc (v : Int32) (σ : fh_S) : Option (Int32 × fh_S) := if v < 0 ∨ 65535 < v then none else some (v, σ)
def fh_ry (v : Int32) (σ : fh_S) : Option (Int32 × fh_S) := if v = 0 then some (v, σ) else none
variable {α β : Type} {E : fh_E} {M : fh_M} {cc : ByteArray} {nL : Nat} {own : String} {rt : Option FieldType} {rm : Room} {vw : α → Option Value} {pc : Nat} {lv : List (Nat × Value)} {st st0 : List Value} {σ : fh_S} {X : Option (α × fh_S)}
theorem go_jn {γ : Type} {k : γ} {f : γ → Option (α × fh_S)} (P : γ → Prop) (hk : P k) (hf : ∀ j, P j → fh_Go E M nL vw pc lv st σ (f j)) : fh_Go E M nL vw pc lv st σ (fh_jn k f) := hf k hk
theorem go_ob {ci k : Nat} (K : fh_Go E M nL vw pc lv st σ X) : fh_Go E M nL vw pc lv st σ (fh_ob ci k X) := by
  unfold fh_ob
  split
  · exact K
  · exact go_none
theorem go_sg {i : Nat} (K : i < 26 → fh_Go E M nL vw pc lv st σ X) : fh_Go E M nL vw pc lv st σ (fh_sg i X) := by
  unfold fh_sg
  split
  · rename_i h; exact K h
  · exact go_none
theorem fh_sg_ok {i : Nat} {x : Option β} {y : β} (h : fh_sg i x = some y) : i < 26 := by
  unfold fh_sg at h
  split at h
  · assumption
  · cases h
theorem go_on {o : Option Nat} {X2 : Nat → Option (α × fh_S)} (K1 : fh_Go E M nL vw pc lv (.null :: st) σ X) (K2 : ∀ k, fh_Go E M nL vw pc lv (.ref (fh_ad E k) :: st) σ (X2 k)) : fh_Go E M nL vw pc lv (va_rf (o.map (fh_ad E)) :: st) σ (fh_on o X X2) := by
  cases o with
  | none => exact K1
  | some k => exact K2 k
theorem go_sval (C : fh_Cx E M cc nL own rt rm) {i idx : Nat} (hi : i < 26) (hlink : Cond.fieldLink own idx "java/lang/String" "value" "[B" ∈ fh_T) (hd : decode cc pc = .ok (.getfield idx, 3)) (K : fh_Go E M nL vw (pc + 3) lv (.ref (fh_aV E i) :: st) σ X) : fh_Go E M nL vw pc lv (.ref (fh_aK E i) :: st) σ X := by
  obtain ⟨p, l, e, R, s, m, args, below, meth, c⟩ := M
  obtain ⟨hx, hb, hml, hown, hts, hlk, hr, hR, hK, hE, hok⟩ := C
  intro r σ' hX H locs ls hP hS hl
  exact vk_getf hx hb (hE.2.2.2.2.1 i hi).2.2.1 hS hown (hts _ hlink) (fun _ h => h) hd (K r σ' hX H locs ls hP hS hl)
theorem go_scod (C : fh_Cx E M cc nL own rt rm) {i idx : Nat} (hi : i < 26) (hlink : Cond.fieldLink own idx "java/lang/String" "coder" "B" ∈ fh_T) (hd : decode cc pc = .ok (.getfield idx, 3)) (K : fh_Go E M nL vw (pc + 3) lv (.int 0 :: st) σ X) : fh_Go E M nL vw pc lv (.ref (fh_aK E i) :: st) σ X := by
  obtain ⟨p, l, e, R, s, m, args, below, meth, c⟩ := M
  obtain ⟨hx, hb, hml, hown, hts, hlk, hr, hR, hK, hE, hok⟩ := C
  intro r σ' hX H locs ls hP hS hl
  exact vk_getf hx hb (hE.2.2.2.2.1 i hi).2.1 hS hown (hts _ hlink) (fun _ h => h) hd (K r σ' hX H locs ls hP hS hl)
theorem go_slen (C : fh_Cx E M cc nL own rt rm) {i : Nat} (hi : i < 26) (hd : decode cc pc = .ok (.arraylength, 1)) (K : fh_Go E M nL vw (pc + 1) lv (.int (Int32.ofNat (fh_sl i)) :: st) σ X) : fh_Go E M nL vw pc lv (.ref (fh_aV E i) :: st) σ X := by
  obtain ⟨p, l, e, R, s, m, args, below, meth, c⟩ := M
  obtain ⟨hx, hb, hml, hown, hts, hlk, hr, hR, hK, hE, hok⟩ := C
  intro r σ' hX H locs ls hP hS hl
  exact va_tlen hx hb (hE.2.2.2.2.1 i hi).2.2.2 hS rfl hd (K r σ' hX H locs ls hP hS hl)
theorem go_sbl {X : Int32 → Option (α × fh_S)} (C : fh_Cx E M cc nL own rt rm) {i : Nat} {j : Int32} (hd : decode cc pc = .ok (.baload, 1)) (K : ∀ v, fh_Go E M nL vw (pc + 1) lv (.int v :: st) σ (X v)) : fh_Go E M nL vw pc lv (.int j :: .ref (fh_aV E i) :: st) σ ((fh_sb i j).bind X) := by
  obtain ⟨p, l, e, R, s, m, args, below, meth, c⟩ := M
  obtain ⟨hx, hb, hml, hown, hts, hlk, hr, hR, hK, hE, hok⟩ := C
  intro r σ' hX H locs ls hP hS hl
  unfold fh_sb at hX
  split at hX
  · rename_i hi
    split at hX
    · cases hX
    · rename_i hin
      exact va_tb hx hb (hE.2.2.2.2.1 i hi).2.2.2 hS hin rfl hd (K _ r σ' hX H locs ls hP hS hl)
  · cases hX
theorem go_cs (C : fh_Cx E M cc nL own rt rm) {idx : Nat} (hlink : Cond.fieldLink own idx "java/lang/String" "COMPACT_STRINGS" "Z" ∈ fh_T) (hd : decode cc pc = .ok (.getstatic idx, 3)) (K : fh_Go E M nL vw (pc + 3) lv (.int 1 :: st) σ X) : fh_Go E M nL vw pc lv st σ X := by
  obtain ⟨p, l, e, R, s, m, args, below, meth, c⟩ := M
  obtain ⟨hx, hb, hml, hown, hts, hlk, hr, hR, hK, hE, hok⟩ := C
  intro r σ' hX H locs ls hP hS hl
  exact va_gets hx hb hE.2.2.1 hS hown (hts _ hlink) (fun _ h => h) hd (K r σ' hX H locs ls hP hS hl)
theorem go_sio (C : fh_Cx E M cc nL own rt rm) {idx : Nat} (hlink : Cond.fieldLink own idx "jdk/internal/util/Preconditions" "SIOOBE_FORMATTER" "Ljava/util/function/BiFunction;" ∈ fh_T) (hd : decode cc pc = .ok (.getstatic idx, 3)) (K : ∀ v : Value, v.category = 1 → fh_Go E M nL vw (pc + 3) lv (v :: st) σ X) : fh_Go E M nL vw pc lv st σ X := by
  obtain ⟨p, l, e, R, s, m, args, below, meth, c⟩ := M
  obtain ⟨hx, hb, hml, hown, hts, hlk, hr, hR, hK, hE, hok⟩ := C
  intro r σ' hX H locs ls hP hS hl
  rcases hE.2.2.2.1 with h | ⟨t, h⟩
  · exact va_gets hx hb h hS hown (hts _ hlink) (fun _ h => h) hd (K _ rfl r σ' hX H locs ls hP hS hl)
  · exact va_gets hx hb h hS hown (hts _ hlink) (fun _ h => h) hd (K _ rfl r σ' hX H locs ls hP hS hl)
theorem go_cret (C : fh_Cx E M cc nL own (some .char) rm) {v : Int32} (hd : decode cc pc = .ok (.ireturn, 1)) : fh_Go E M nL fh_vI pc lv [.int v] σ (fh_rc v σ) := by
  obtain ⟨p, l, e, R, s, m, args, below, meth, c⟩ := M
  obtain ⟨hx, hb, hml, hown, hts, hlk, hr, hR, hK, hE, hok⟩ := C
  intro r σ' hX H locs ls hP hS hl
  unfold fh_rc at hX
  split at hX
  · cases hX
  · rename_i hv
    have hv := not_or.mp hv
    cases hX
    obtain ⟨q, hq, e⟩ := nI_of2 (M := 65535) (n := 65535) (by decide) hv.1 (Int32.not_lt.mp hv.2)
    exact W.zret hx hb hr (by rw [e]; exact (pk_charN (by omega)).1) (fun t ht hW => ⟨rfl, by rw [ht]; exact hP, hS.F ht⟩) hS.2.2 hd hlk
theorem go_yret (C : fh_Cx E M cc nL own (some .byte) rm) {v : Int32} (hd : decode cc pc = .ok (.ireturn, 1)) : fh_Go E M nL fh_vI pc lv [.int v] σ (fh_ry v σ) := by
  obtain ⟨p, l, e, R, s, m, args, below, meth, c⟩ := M
  obtain ⟨hx, hb, hml, hown, hts, hlk, hr, hR, hK, hE, hok⟩ := C
  intro r σ' hX H locs ls hP hS hl
  unfold fh_ry at hX
  split at hX
  · rename_i hv
    subst hv
    cases hX
    exact W.zret hx hb hr rfl (fun t ht hW => ⟨rfl, by rw [ht]; exact hP, hS.F ht⟩) hS.2.2 hd hlk
  · cases hX
variable {y : MethodName} {bytes : ByteArray} {maxL n idx : Nat} {ret : Option FieldType} {rm' : Room} {vw' : β → Option Value} {F : Option (β × fh_S)}
theorem go_callX {X : β → fh_S → Option (α × fh_S)} (C : fh_Cx E M cc nL own rt rm) (As : List Value) {i : Nat} (hM : fh_Met E M.2.1 y bytes maxL ret rm' vw' (.ref (fh_aK E i) :: As) σ F) (hi : ∀ q, F = some q → i < 26) (hst : st0 = As.reverse ++ .ref (fh_aK E i) :: st) (hc : y.cls = "java/lang/String")
    (hw : Cond.methodLink own idx y ∈ fh_T ∧ Cond.instanceMethod y ∈ fh_T ∧ Cond.selects y.cls y y ∈ fh_T ∧ Cond.initialized y.cls ∈ fh_T ∧ Cond.code y bytes maxL ret ∈ fh_T)
    (hd' : y.cls ≠ "java/lang/invoke/MethodHandle" ∧ y.cls ≠ "java/lang/invoke/VarHandle" ∧ (parseMethodDescriptor y.desc).map (fun d => d.parameters.length) = some n) (hn : As.length = n)
    (hR : (rm'.frames + 1 ≤ rm.frames ∧ 8 + (maxL + 11) + rm'.locals ≤ rm.locals) ∧ rm'.cells = 0 ∧ rm'.slots = 0) (hcat : (st.map fun v => v.category).sum ≤ 8) (hd : decode cc pc = .ok (.invokevirtual idx, 3))
    (K : ∀ (r : β) (σ1 : fh_S), fh_Go E M nL vw (pc + 3) lv ((vw' r).toList ++ st) σ1 (X r σ1)) : fh_Go E M nL vw pc lv st0 σ (fh_cb F X) := by
  obtain ⟨p, l, e, R, s, m, args, below, meth, c⟩ := M
  obtain ⟨hx, hb, hml, hown, hts, hlk, hr, hRR, hK, hE, hok⟩ := C
  intro r σ' hX H locs ls hP hS hl
  cases hF : F with
  | none => rw [hF] at hX; cases hX
  | some q =>
    have hi := hi q hF
    obtain ⟨r1, σ1⟩ := q
    rw [hF] at hX
    subst hRR
    subst hst
    have hG : GoodIn fh_T (wsV own idx y.cls y (fh_w y bytes maxL ret)) := by
      intro w hw'
      unfold wsV at hw'
      rcases List.mem_append.mp hw' with h | h
      · simp only [List.mem_cons, List.not_mem_nil, or_false] at h
        rcases h with rfl | rfl | rfl | rfl
        · exact ⟨hw.1, fh_good hw.1⟩
        · exact ⟨hw.2.1, fh_good hw.2.1⟩
        · exact ⟨hw.2.2.1, fh_good hw.2.2.1⟩
        · exact ⟨hw.2.2.2.1, fh_good hw.2.2.2.1⟩
      · exact fh_gw hw.2.2.2.2 w h
    have hrc : ∃ cell : Cell, H[fh_aK E i]? = some cell ∧ cell.vm.isStatics = false ∧ s.vm.findClass y.cls = some cell.cls := by
      obtain ⟨cell, h1, h2, h3, -⟩ := (hE.2.2.2.2.1 i hi).1.kept hS.2.1
      exact ⟨cell, h1, h2, by rw [hc]; exact h3⟩
    refine fh_after (va_runV (As := As) (rest := st) (Ts := fh_T) (C := y.cls) ⟨hx, hb, hml, hown, hts⟩ (hM r1 σ1 hF) (cwV n hts hG rfl hR.2.1 hR.2.2 ⟨rfl, hd'⟩ hR.1) ⟨fh_blind, hrc, fun U hU hW => ⟨rfl, by rw [hU]; exact hP, va_K.moved hW.alike hK, fh_X_go hE hS hU hW⟩⟩ rfl hn hl.1 rfl (lv_room hcat) hd ⟨Nat.zero_le _, Nat.zero_le _⟩) hS (fun H1 locs1 hP1 hS1 => ?_)
    exact K r1 σ1 r σ' hX H1 locs1 ls hP1 hS1 hl
theorem go_callVI {F : Option (Int32 × fh_S)} {X : Int32 → fh_S → Option (α × fh_S)} (C : fh_Cx E M cc nL own rt rm) (As : List Value) {k ci N : Nat} {T : u_T} (hM : fh_Met E M.2.1 y bytes maxL ret rm' fh_vI (.ref (fh_ad E k) :: As) σ F) (hq : ∀ q, F = some q → fh_isC ci k = true) (hst : st0 = As.reverse ++ .ref (fh_ad E k) :: st) (hc : fh_cl[ci]? = some (y.cls, T, N)) (hw : Cond.methodLink own idx y ∈ fh_T ∧ Cond.instanceMethod y ∈ fh_T ∧ Cond.selects y.cls y y ∈ fh_T ∧ Cond.initialized y.cls ∈ fh_T ∧ Cond.code y bytes maxL ret ∈ fh_T) (hd' : y.cls ≠ "java/lang/invoke/MethodHandle" ∧ y.cls ≠ "java/lang/invoke/VarHandle" ∧ (parseMethodDescriptor y.desc).map (fun d => d.parameters.length) = some n) (hn : As.length = n) (hR : (rm'.frames + 1 ≤ rm.frames ∧ 8 + (maxL + 11) + rm'.locals ≤ rm.locals) ∧ rm'.cells = 0 ∧ rm'.slots = 0) (hcat : (st.map fun v => v.category).sum ≤ 8) (hd : decode cc pc = .ok (.invokevirtual idx, 3)) (K : ∀ (r : Int32) (σ1 : fh_S), fh_Go E M nL vw (pc + 3) lv (.int r :: st) σ1 (X r σ1)) : fh_Go E M nL vw pc lv st0 σ (fh_cb F X) := go_callV C As hM hq hst hc hw hd' hn hR hcat hd K
theorem go_callVU {F : Option (Unit × fh_S)} {X : Unit → fh_S → Option (α × fh_S)} (C : fh_Cx E M cc nL own rt rm) (As : List Value) {k ci N : Nat} {T : u_T} (hM : fh_Met E M.2.1 y bytes maxL ret rm' fh_vU (.ref (fh_ad E k) :: As) σ F) (hq : ∀ q, F = some q → fh_isC ci k = true) (hst : st0 = As.reverse ++ .ref (fh_ad E k) :: st) (hc : fh_cl[ci]? = some (y.cls, T, N)) (hw : Cond.methodLink own idx y ∈ fh_T ∧ Cond.instanceMethod y ∈ fh_T ∧ Cond.selects y.cls y y ∈ fh_T ∧ Cond.initialized y.cls ∈ fh_T ∧ Cond.code y bytes maxL ret ∈ fh_T) (hd' : y.cls ≠ "java/lang/invoke/MethodHandle" ∧ y.cls ≠ "java/lang/invoke/VarHandle" ∧ (parseMethodDescriptor y.desc).map (fun d => d.parameters.length) = some n) (hn : As.length = n) (hR : (rm'.frames + 1 ≤ rm.frames ∧ 8 + (maxL + 11) + rm'.locals ≤ rm.locals) ∧ rm'.cells = 0 ∧ rm'.slots = 0) (hcat : (st.map fun v => v.category).sum ≤ 8) (hd : decode cc pc = .ok (.invokevirtual idx, 3)) (K : ∀ (r : Unit) (σ1 : fh_S), fh_Go E M nL vw (pc + 3) lv (st) σ1 (X r σ1)) : fh_Go E M nL vw pc lv st0 σ (fh_cb F X) := go_callV C As hM hq hst hc hw hd' hn hR hcat hd K
theorem go_callVR {F : Option (Option Nat × fh_S)} {X : Option Nat → fh_S → Option (α × fh_S)} (C : fh_Cx E M cc nL own rt rm) (As : List Value) {k ci N : Nat} {T : u_T} (hM : fh_Met E M.2.1 y bytes maxL ret rm' (fh_vR E) (.ref (fh_ad E k) :: As) σ F) (hq : ∀ q, F = some q → fh_isC ci k = true) (hst : st0 = As.reverse ++ .ref (fh_ad E k) :: st) (hc : fh_cl[ci]? = some (y.cls, T, N)) (hw : Cond.methodLink own idx y ∈ fh_T ∧ Cond.instanceMethod y ∈ fh_T ∧ Cond.selects y.cls y y ∈ fh_T ∧ Cond.initialized y.cls ∈ fh_T ∧ Cond.code y bytes maxL ret ∈ fh_T) (hd' : y.cls ≠ "java/lang/invoke/MethodHandle" ∧ y.cls ≠ "java/lang/invoke/VarHandle" ∧ (parseMethodDescriptor y.desc).map (fun d => d.parameters.length) = some n) (hn : As.length = n) (hR : (rm'.frames + 1 ≤ rm.frames ∧ 8 + (maxL + 11) + rm'.locals ≤ rm.locals) ∧ rm'.cells = 0 ∧ rm'.slots = 0) (hcat : (st.map fun v => v.category).sum ≤ 8) (hd : decode cc pc = .ok (.invokevirtual idx, 3)) (K : ∀ (r : Option Nat) (σ1 : fh_S), fh_Go E M nL vw (pc + 3) lv (va_rf (r.map (fh_ad E)) :: st) σ1 (X r σ1)) : fh_Go E M nL vw pc lv st0 σ (fh_cb F X) := go_callV C As hM hq hst hc hw hd' hn hR hcat hd K
theorem go_callVG {F : Option (Nat × fh_S)} {X : Nat → fh_S → Option (α × fh_S)} (C : fh_Cx E M cc nL own rt rm) (As : List Value) {k ci N : Nat} {T : u_T} (hM : fh_Met E M.2.1 y bytes maxL ret rm' (fh_vS E) (.ref (fh_ad E k) :: As) σ F) (hq : ∀ q, F = some q → fh_isC ci k = true) (hst : st0 = As.reverse ++ .ref (fh_ad E k) :: st) (hc : fh_cl[ci]? = some (y.cls, T, N)) (hw : Cond.methodLink own idx y ∈ fh_T ∧ Cond.instanceMethod y ∈ fh_T ∧ Cond.selects y.cls y y ∈ fh_T ∧ Cond.initialized y.cls ∈ fh_T ∧ Cond.code y bytes maxL ret ∈ fh_T) (hd' : y.cls ≠ "java/lang/invoke/MethodHandle" ∧ y.cls ≠ "java/lang/invoke/VarHandle" ∧ (parseMethodDescriptor y.desc).map (fun d => d.parameters.length) = some n) (hn : As.length = n) (hR : (rm'.frames + 1 ≤ rm.frames ∧ 8 + (maxL + 11) + rm'.locals ≤ rm.locals) ∧ rm'.cells = 0 ∧ rm'.slots = 0) (hcat : (st.map fun v => v.category).sum ≤ 8) (hd : decode cc pc = .ok (.invokevirtual idx, 3)) (K : ∀ (r : Nat) (σ1 : fh_S), fh_Go E M nL vw (pc + 3) lv (.ref (fh_aK E r) :: st) σ1 (X r σ1)) : fh_Go E M nL vw pc lv st0 σ (fh_cb F X) := go_callV C As hM hq hst hc hw hd' hn hR hcat hd K
theorem go_callXI {F : Option (Int32 × fh_S)} {X : Int32 → fh_S → Option (α × fh_S)} (C : fh_Cx E M cc nL own rt rm) (As : List Value) {i : Nat} (hM : fh_Met E M.2.1 y bytes maxL ret rm' fh_vI (.ref (fh_aK E i) :: As) σ F) (hi : ∀ q, F = some q → i < 26) (hst : st0 = As.reverse ++ .ref (fh_aK E i) :: st) (hc : y.cls = "java/lang/String") (hw : Cond.methodLink own idx y ∈ fh_T ∧ Cond.instanceMethod y ∈ fh_T ∧ Cond.selects y.cls y y ∈ fh_T ∧ Cond.initialized y.cls ∈ fh_T ∧ Cond.code y bytes maxL ret ∈ fh_T) (hd' : y.cls ≠ "java/lang/invoke/MethodHandle" ∧ y.cls ≠ "java/lang/invoke/VarHandle" ∧ (parseMethodDescriptor y.desc).map (fun d => d.parameters.length) = some n) (hn : As.length = n) (hR : (rm'.frames + 1 ≤ rm.frames ∧ 8 + (maxL + 11) + rm'.locals ≤ rm.locals) ∧ rm'.cells = 0 ∧ rm'.slots = 0) (hcat : (st.map fun v => v.category).sum ≤ 8) (hd : decode cc pc = .ok (.invokevirtual idx, 3)) (K : ∀ (r : Int32) (σ1 : fh_S), fh_Go E M nL vw (pc + 3) lv (.int r :: st) σ1 (X r σ1)) : fh_Go E M nL vw pc lv st0 σ (fh_cb F X) := go_callX C As hM hi hst hc hw hd' hn hR hcat hd K
theorem go_callSI {F : Option (Int32 × fh_S)} {X : Int32 → fh_S → Option (α × fh_S)} (C : fh_Cx E M cc nL own rt rm) (As : List Value) (hM : fh_Met E M.2.1 y bytes maxL ret rm' fh_vI As σ F) (hst : st0 = As.reverse ++ st) (hw : Cond.methodLink own idx y ∈ fh_T ∧ Cond.static y ∈ fh_T ∧ Cond.initialized y.cls ∈ fh_T ∧ Cond.code y bytes maxL ret ∈ fh_T) (hd' : y.cls ≠ "java/lang/invoke/MethodHandle" ∧ y.cls ≠ "java/lang/invoke/VarHandle" ∧ (parseMethodDescriptor y.desc).map (fun d => d.parameters.length) = some n) (hn : As.length = n) (hR : (rm'.frames + 1 ≤ rm.frames ∧ 8 + (maxL + 11) + rm'.locals ≤ rm.locals) ∧ rm'.cells = 0 ∧ rm'.slots = 0) (hcat : (st.map fun v => v.category).sum ≤ 8) (hd : decode cc pc = .ok (.invokestatic idx, 3)) (K : ∀ (r : Int32) (σ1 : fh_S), fh_Go E M nL vw (pc + 3) lv (.int r :: st) σ1 (X r σ1)) : fh_Go E M nL vw pc lv st0 σ (fh_cb F X) := go_callS C As hM hst hw hd' hn hR hcat hd K
theorem go_callSU {F : Option (Unit × fh_S)} {X : Unit → fh_S → Option (α × fh_S)} (C : fh_Cx E M cc nL own rt rm) (As : List Value) (hM : fh_Met E M.2.1 y bytes maxL ret rm' fh_vU As σ F) (hst : st0 = As.reverse ++ st) (hw : Cond.methodLink own idx y ∈ fh_T ∧ Cond.static y ∈ fh_T ∧ Cond.initialized y.cls ∈ fh_T ∧ Cond.code y bytes maxL ret ∈ fh_T) (hd' : y.cls ≠ "java/lang/invoke/MethodHandle" ∧ y.cls ≠ "java/lang/invoke/VarHandle" ∧ (parseMethodDescriptor y.desc).map (fun d => d.parameters.length) = some n) (hn : As.length = n) (hR : (rm'.frames + 1 ≤ rm.frames ∧ 8 + (maxL + 11) + rm'.locals ≤ rm.locals) ∧ rm'.cells = 0 ∧ rm'.slots = 0) (hcat : (st.map fun v => v.category).sum ≤ 8) (hd : decode cc pc = .ok (.invokestatic idx, 3)) (K : ∀ (r : Unit) (σ1 : fh_S), fh_Go E M nL vw (pc + 3) lv (st) σ1 (X r σ1)) : fh_Go E M nL vw pc lv st0 σ (fh_cb F X) := go_callS C As hM hst hw hd' hn hR hcat hd K
theorem go_callSR {F : Option (Option Nat × fh_S)} {X : Option Nat → fh_S → Option (α × fh_S)} (C : fh_Cx E M cc nL own rt rm) (As : List Value) (hM : fh_Met E M.2.1 y bytes maxL ret rm' (fh_vR E) As σ F) (hst : st0 = As.reverse ++ st) (hw : Cond.methodLink own idx y ∈ fh_T ∧ Cond.static y ∈ fh_T ∧ Cond.initialized y.cls ∈ fh_T ∧ Cond.code y bytes maxL ret ∈ fh_T) (hd' : y.cls ≠ "java/lang/invoke/MethodHandle" ∧ y.cls ≠ "java/lang/invoke/VarHandle" ∧ (parseMethodDescriptor y.desc).map (fun d => d.parameters.length) = some n) (hn : As.length = n) (hR : (rm'.frames + 1 ≤ rm.frames ∧ 8 + (maxL + 11) + rm'.locals ≤ rm.locals) ∧ rm'.cells = 0 ∧ rm'.slots = 0) (hcat : (st.map fun v => v.category).sum ≤ 8) (hd : decode cc pc = .ok (.invokestatic idx, 3)) (K : ∀ (r : Option Nat) (σ1 : fh_S), fh_Go E M nL vw (pc + 3) lv (va_rf (r.map (fh_ad E)) :: st) σ1 (X r σ1)) : fh_Go E M nL vw pc lv st0 σ (fh_cb F X) := go_callS C As hM hst hw hd' hn hR hcat hd K
theorem go_callSG {F : Option (Nat × fh_S)} {X : Nat → fh_S → Option (α × fh_S)} (C : fh_Cx E M cc nL own rt rm) (As : List Value) (hM : fh_Met E M.2.1 y bytes maxL ret rm' (fh_vS E) As σ F) (hst : st0 = As.reverse ++ st) (hw : Cond.methodLink own idx y ∈ fh_T ∧ Cond.static y ∈ fh_T ∧ Cond.initialized y.cls ∈ fh_T ∧ Cond.code y bytes maxL ret ∈ fh_T) (hd' : y.cls ≠ "java/lang/invoke/MethodHandle" ∧ y.cls ≠ "java/lang/invoke/VarHandle" ∧ (parseMethodDescriptor y.desc).map (fun d => d.parameters.length) = some n) (hn : As.length = n) (hR : (rm'.frames + 1 ≤ rm.frames ∧ 8 + (maxL + 11) + rm'.locals ≤ rm.locals) ∧ rm'.cells = 0 ∧ rm'.slots = 0) (hcat : (st.map fun v => v.category).sum ≤ 8) (hd : decode cc pc = .ok (.invokestatic idx, 3)) (K : ∀ (r : Nat) (σ1 : fh_S), fh_Go E M nL vw (pc + 3) lv (.ref (fh_aK E r) :: st) σ1 (X r σ1)) : fh_Go E M nL vw pc lv st0 σ (fh_cb F X) := go_callS C As hM hst hw hd' hn hR hcat hd K
theorem go_callNI {F : Option (Int32 × fh_S)} {X : Int32 → fh_S → Option (α × fh_S)} (C : fh_Cx E M cc nL own rt rm) (As : List Value) (hM : fh_Met E M.2.1 y bytes maxL ret rm' fh_vI As σ F) (hst : st0 = As.reverse ++ st) (hw : Cond.methodLinkNest own idx y "FollowedHours" ∈ fh_nest ∧ Cond.static y ∈ fh_T ∧ Cond.initialized y.cls ∈ fh_T ∧ Cond.code y bytes maxL ret ∈ fh_T) (hd' : y.cls ≠ "java/lang/invoke/MethodHandle" ∧ y.cls ≠ "java/lang/invoke/VarHandle" ∧ (parseMethodDescriptor y.desc).map (fun d => d.parameters.length) = some n) (hn : As.length = n) (hR : (rm'.frames + 1 ≤ rm.frames ∧ 8 + (maxL + 11) + rm'.locals ≤ rm.locals) ∧ rm'.cells = 0 ∧ rm'.slots = 0) (hcat : (st.map fun v => v.category).sum ≤ 8) (hd : decode cc pc = .ok (.invokestatic idx, 3)) (K : ∀ (r : Int32) (σ1 : fh_S), fh_Go E M nL vw (pc + 3) lv (.int r :: st) σ1 (X r σ1)) : fh_Go E M nL vw pc lv st0 σ (fh_cb F X) := go_callN C As "FollowedHours" hM hst hw hd' hn hR hcat hd K

end FHMORE
end
