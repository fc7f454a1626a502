set_option maxRecDepth 100000 in
theorem qs_0 : Cond.selects "FollowedHours" (⟨"FollowedHours", "tell", "(I)I"⟩ : MethodName) (⟨"FollowedHours", "tell", "(I)I"⟩ : MethodName) ∈ fh_T := fh_Tsel 0 (by decide +kernel) rfl
set_option maxRecDepth 100000 in
theorem qs_1 : Cond.selects "FollowedHours$Garden" (⟨"FollowedHours$Garden", "paceBehind", "(II)I"⟩ : MethodName) (⟨"FollowedHours$Garden", "paceBehind", "(II)I"⟩ : MethodName) ∈ fh_T := fh_Tsel 1 (by decide +kernel) rfl
set_option maxRecDepth 100000 in
theorem qs_2 : Cond.selects "FollowedHours$Garden" (⟨"FollowedHours$Garden", "setWhere", "([II)I"⟩ : MethodName) (⟨"FollowedHours$Garden", "setWhere", "([II)I"⟩ : MethodName) ∈ fh_T := fh_Tsel 2 (by decide +kernel) rfl
set_option maxRecDepth 100000 in
theorem qs_3 : Cond.selects "FollowedHours" (⟨"FollowedHours", "tryTicks", "(I)V"⟩ : MethodName) (⟨"FollowedHours", "tryTicks", "(I)V"⟩ : MethodName) ∈ fh_T := fh_Tsel 3 (by decide +kernel) rfl
set_option maxRecDepth 100000 in
theorem qs_4 : Cond.selects "FollowedHours" (⟨"FollowedHours", "distanceAs", "(III)I"⟩ : MethodName) (⟨"FollowedHours", "distanceAs", "(III)I"⟩ : MethodName) ∈ fh_T := fh_Tsel 4 (by decide +kernel) rfl
set_option maxRecDepth 100000 in
theorem qs_5 : Cond.selects "FollowedHours" (⟨"FollowedHours", "findingOfSheet", "(I)I"⟩ : MethodName) (⟨"FollowedHours", "findingOfSheet", "(I)I"⟩ : MethodName) ∈ fh_T := fh_Tsel 5 (by decide +kernel) rfl
set_option maxRecDepth 100000 in
theorem qs_6 : Cond.selects "FollowedHours" (⟨"FollowedHours", "triedShowsAs", "(LFollowedHours$Sheet;I)Z"⟩ : MethodName) (⟨"FollowedHours", "triedShowsAs", "(LFollowedHours$Sheet;I)Z"⟩ : MethodName) ∈ fh_T := fh_Tsel 6 (by decide +kernel) rfl
set_option maxRecDepth 100000 in
theorem qs_7 : Cond.selects "FollowedHours" (⟨"FollowedHours", "stillIfStopped", "(II)I"⟩ : MethodName) (⟨"FollowedHours", "stillIfStopped", "(II)I"⟩ : MethodName) ∈ fh_T := fh_Tsel 7 (by decide +kernel) rfl
set_option maxRecDepth 100000 in
theorem qs_8 : Cond.selects "FollowedHours$Reader" (⟨"FollowedHours$Reader", "findToken", "()V"⟩ : MethodName) (⟨"FollowedHours$Reader", "findToken", "()V"⟩ : MethodName) ∈ fh_T := fh_Tsel 8 (by decide +kernel) rfl
set_option maxRecDepth 100000 in
theorem qs_9 : Cond.selects "FollowedHours$Reader" (⟨"FollowedHours$Reader", "readLetters", "()V"⟩ : MethodName) (⟨"FollowedHours$Reader", "readLetters", "()V"⟩ : MethodName) ∈ fh_T := fh_Tsel 9 (by decide +kernel) rfl
set_option maxRecDepth 100000 in
theorem qs_10 : Cond.selects "FollowedHours$Reader" (⟨"FollowedHours$Reader", "readDigits", "()V"⟩ : MethodName) (⟨"FollowedHours$Reader", "readDigits", "()V"⟩ : MethodName) ∈ fh_T := fh_Tsel 10 (by decide +kernel) rfl
set_option maxRecDepth 100000 in
theorem qs_11 : Cond.selects "FollowedHours$Reader" (⟨"FollowedHours$Reader", "takeWord", "(Ljava/lang/String;)Z"⟩ : MethodName) (⟨"FollowedHours$Reader", "takeWord", "(Ljava/lang/String;)Z"⟩ : MethodName) ∈ fh_T := fh_Tsel 11 (by decide +kernel) rfl
set_option maxRecDepth 100000 in
theorem qs_12 : Cond.selects "FollowedHours$Reader" (⟨"FollowedHours$Reader", "isWord", "(Ljava/lang/String;)Z"⟩ : MethodName) (⟨"FollowedHours$Reader", "isWord", "(Ljava/lang/String;)Z"⟩ : MethodName) ∈ fh_T := fh_Tsel 12 (by decide +kernel) rfl
set_option maxRecDepth 100000 in
theorem qs_13 : Cond.selects "FollowedHours$Reader" (⟨"FollowedHours$Reader", "readMaster", "(LFollowedHours$Garden;)V"⟩ : MethodName) (⟨"FollowedHours$Reader", "readMaster", "(LFollowedHours$Garden;)V"⟩ : MethodName) ∈ fh_T := fh_Tsel 13 (by decide +kernel) rfl
set_option maxRecDepth 100000 in
theorem qs_14 : Cond.selects "FollowedHours$Reader" (⟨"FollowedHours$Reader", "takeNumber", "(I)I"⟩ : MethodName) (⟨"FollowedHours$Reader", "takeNumber", "(I)I"⟩ : MethodName) ∈ fh_T := fh_Tsel 14 (by decide +kernel) rfl
set_option maxRecDepth 100000 in
theorem qs_15 : Cond.selects "FollowedHours$Reader" (⟨"FollowedHours$Reader", "refuse", "()V"⟩ : MethodName) (⟨"FollowedHours$Reader", "refuse", "()V"⟩ : MethodName) ∈ fh_T := fh_Tsel 15 (by decide +kernel) rfl
set_option maxRecDepth 100000 in
theorem qs_16 : Cond.selects "FollowedHours$Reader" (⟨"FollowedHours$Reader", "readDial", "(LFollowedHours$Garden;)V"⟩ : MethodName) (⟨"FollowedHours$Reader", "readDial", "(LFollowedHours$Garden;)V"⟩ : MethodName) ∈ fh_T := fh_Tsel 16 (by decide +kernel) rfl
set_option maxRecDepth 100000 in
theorem qs_17 : Cond.selects "FollowedHours$Reader" (⟨"FollowedHours$Reader", "kindOfWord", "()I"⟩ : MethodName) (⟨"FollowedHours$Reader", "kindOfWord", "()I"⟩ : MethodName) ∈ fh_T := fh_Tsel 17 (by decide +kernel) rfl
set_option maxRecDepth 100000 in
theorem qs_18 : Cond.selects "FollowedHours$Reader" (⟨"FollowedHours$Reader", "takeSign", "(C)Z"⟩ : MethodName) (⟨"FollowedHours$Reader", "takeSign", "(C)Z"⟩ : MethodName) ∈ fh_T := fh_Tsel 18 (by decide +kernel) rfl
set_option maxRecDepth 100000 in
theorem qs_19 : Cond.selects "FollowedHoursModel" (⟨"FollowedHoursModel", "finding", "(I)I"⟩ : MethodName) (⟨"FollowedHoursModel", "finding", "(I)I"⟩ : MethodName) ∈ fh_T := fh_Tsel 19 (by decide +kernel) rfl
set_option maxRecDepth 100000 in
theorem qs_20 : Cond.selects "FollowedHoursModel" (⟨"FollowedHoursModel", "comes", "(IIIIII)I"⟩ : MethodName) (⟨"FollowedHoursModel", "comes", "(IIIIII)I"⟩ : MethodName) ∈ fh_T := fh_Tsel 20 (by decide +kernel) rfl
set_option maxRecDepth 100000 in
theorem qs_21 : Cond.selects "FollowedHoursModel" (⟨"FollowedHoursModel", "isDial", "(I)Z"⟩ : MethodName) (⟨"FollowedHoursModel", "isDial", "(I)Z"⟩ : MethodName) ∈ fh_T := fh_Tsel 21 (by decide +kernel) rfl
set_option maxRecDepth 100000 in
theorem qs_22 : Cond.selects "FollowedHoursModel" (⟨"FollowedHoursModel", "pace", "(I)I"⟩ : MethodName) (⟨"FollowedHoursModel", "pace", "(I)I"⟩ : MethodName) ∈ fh_T := fh_Tsel 22 (by decide +kernel) rfl
set_option maxRecDepth 100000 in
theorem qs_23 : Cond.selects "FollowedHoursModel" (⟨"FollowedHoursModel", "plainPace", "(I)I"⟩ : MethodName) (⟨"FollowedHoursModel", "plainPace", "(I)I"⟩ : MethodName) ∈ fh_T := fh_Tsel 23 (by decide +kernel) rfl
set_option maxRecDepth 100000 in
theorem qs_24 : Cond.selects "FollowedHoursModel" (⟨"FollowedHoursModel", "dialIs", "(II)I"⟩ : MethodName) (⟨"FollowedHoursModel", "dialIs", "(II)I"⟩ : MethodName) ∈ fh_T := fh_Tsel 24 (by decide +kernel) rfl
set_option maxRecDepth 100000 in
theorem qs_25 : Cond.selects "FollowedHoursModel" (⟨"FollowedHoursModel", "isStopped", "(I)Z"⟩ : MethodName) (⟨"FollowedHoursModel", "isStopped", "(I)Z"⟩ : MethodName) ∈ fh_T := fh_Tsel 25 (by decide +kernel) rfl
set_option maxRecDepth 100000 in
theorem qs_26 : Cond.selects "FollowedHoursModel" (⟨"FollowedHoursModel", "mayBe", "(II)Z"⟩ : MethodName) (⟨"FollowedHoursModel", "mayBe", "(II)Z"⟩ : MethodName) ∈ fh_T := fh_Tsel 26 (by decide +kernel) rfl
set_option maxRecDepth 100000 in
theorem qs_27 : Cond.selects "FollowedHoursModel" (⟨"FollowedHoursModel", "become", "(II)I"⟩ : MethodName) (⟨"FollowedHoursModel", "become", "(II)I"⟩ : MethodName) ∈ fh_T := fh_Tsel 27 (by decide +kernel) rfl
set_option maxRecDepth 100000 in
theorem qs_28 : Cond.selects "FollowedHoursModel" (⟨"FollowedHoursModel", "stops", "(II)Z"⟩ : MethodName) (⟨"FollowedHoursModel", "stops", "(II)Z"⟩ : MethodName) ∈ fh_T := fh_Tsel 28 (by decide +kernel) rfl
set_option maxRecDepth 100000 in
theorem qs_29 : Cond.selects "FollowedHoursModel" (⟨"FollowedHoursModel", "ticks", "(I)V"⟩ : MethodName) (⟨"FollowedHoursModel", "ticks", "(I)V"⟩ : MethodName) ∈ fh_T := fh_Tsel 29 (by decide +kernel) rfl
set_option maxRecDepth 100000 in
theorem qs_30 : Cond.selects "FollowedHoursModel" (⟨"FollowedHoursModel", "tick", "()V"⟩ : MethodName) (⟨"FollowedHoursModel", "tick", "()V"⟩ : MethodName) ∈ fh_T := fh_Tsel 30 (by decide +kernel) rfl
set_option maxRecDepth 100000 in
theorem qs_31 : Cond.selects "FollowedHoursModel" (⟨"FollowedHoursModel", "stoppedNow", "()I"⟩ : MethodName) (⟨"FollowedHoursModel", "stoppedNow", "()I"⟩ : MethodName) ∈ fh_T := fh_Tsel 31 (by decide +kernel) rfl
set_option maxRecDepth 100000 in
theorem qs_32 : Cond.selects "FollowedHoursModel" (⟨"FollowedHoursModel", "stillNow", "()I"⟩ : MethodName) (⟨"FollowedHoursModel", "stillNow", "()I"⟩ : MethodName) ∈ fh_T := fh_Tsel 32 (by decide +kernel) rfl
set_option maxRecDepth 100000 in
theorem qs_33 : Cond.selects "FollowedHoursModel" (⟨"FollowedHoursModel", "ownNow", "()I"⟩ : MethodName) (⟨"FollowedHoursModel", "ownNow", "()I"⟩ : MethodName) ∈ fh_T := fh_Tsel 33 (by decide +kernel) rfl
set_option maxRecDepth 100000 in
theorem qs_34 : Cond.selects "FollowedHoursModel" (⟨"FollowedHoursModel", "sumOf", "(I)I"⟩ : MethodName) (⟨"FollowedHoursModel", "sumOf", "(I)I"⟩ : MethodName) ∈ fh_T := fh_Tsel 34 (by decide +kernel) rfl
set_option maxRecDepth 100000 in
theorem qs_35 : Cond.selects "FollowedHoursModel" (⟨"FollowedHoursModel", "manyShow", "(I)I"⟩ : MethodName) (⟨"FollowedHoursModel", "manyShow", "(I)I"⟩ : MethodName) ∈ fh_T := fh_Tsel 35 (by decide +kernel) rfl
set_option maxRecDepth 100000 in
theorem qs_36 : Cond.selects "FollowedHoursModel" (⟨"FollowedHoursModel", "whoShow", "(I)I"⟩ : MethodName) (⟨"FollowedHoursModel", "whoShow", "(I)I"⟩ : MethodName) ∈ fh_T := fh_Tsel 36 (by decide +kernel) rfl
set_option maxRecDepth 100000 in
theorem qs_37 : Cond.selects "FollowedHoursModel" (⟨"FollowedHoursModel", "wayOf", "(I)I"⟩ : MethodName) (⟨"FollowedHoursModel", "wayOf", "(I)I"⟩ : MethodName) ∈ fh_T := fh_Tsel 37 (by decide +kernel) rfl
set_option maxRecDepth 100000 in
theorem qs_38 : Cond.selects "FollowedHoursModel" (⟨"FollowedHoursModel", "ringOf", "(I)I"⟩ : MethodName) (⟨"FollowedHoursModel", "ringOf", "(I)I"⟩ : MethodName) ∈ fh_T := fh_Tsel 38 (by decide +kernel) rfl
set_option maxRecDepth 100000 in
theorem qs_39 : Cond.selects "FollowedHoursModel" (⟨"FollowedHoursModel", "manyRings", "()I"⟩ : MethodName) (⟨"FollowedHoursModel", "manyRings", "()I"⟩ : MethodName) ∈ fh_T := fh_Tsel 39 (by decide +kernel) rfl
set_option maxRecDepth 100000 in
theorem qs_40 : Cond.selects "FollowedHoursModel" (⟨"FollowedHoursModel", "underOf", "(I)I"⟩ : MethodName) (⟨"FollowedHoursModel", "underOf", "(I)I"⟩ : MethodName) ∈ fh_T := fh_Tsel 40 (by decide +kernel) rfl
set_option maxRecDepth 100000 in
theorem qs_41 : Cond.selects "FollowedHoursModel" (⟨"FollowedHoursModel", "orNone", "(I)I"⟩ : MethodName) (⟨"FollowedHoursModel", "orNone", "(I)I"⟩ : MethodName) ∈ fh_T := fh_Tsel 41 (by decide +kernel) rfl
set_option maxRecDepth 100000 in
theorem qs_42 : Cond.selects "FollowedHoursModel" (⟨"FollowedHoursModel", "behind", "(III)I"⟩ : MethodName) (⟨"FollowedHoursModel", "behind", "(III)I"⟩ : MethodName) ∈ fh_T := fh_Tsel 42 (by decide +kernel) rfl
set_option maxRecDepth 100000 in
theorem qs_43 : Cond.selects "FollowedHoursModel" (⟨"FollowedHoursModel", "putBack", "(I)I"⟩ : MethodName) (⟨"FollowedHoursModel", "putBack", "(I)I"⟩ : MethodName) ∈ fh_T := fh_Tsel 43 (by decide +kernel) rfl
set_option maxRecDepth 100000 in
theorem qs_44 : Cond.selects "FollowedHoursModel" (⟨"FollowedHoursModel", "isSettled", "()Z"⟩ : MethodName) (⟨"FollowedHoursModel", "isSettled", "()Z"⟩ : MethodName) ∈ fh_T := fh_Tsel 44 (by decide +kernel) rfl
set_option maxRecDepth 100000 in
theorem qs_45 : Cond.selects "FollowedHoursModel" (⟨"FollowedHoursModel", "farIn", "(II)I"⟩ : MethodName) (⟨"FollowedHoursModel", "farIn", "(II)I"⟩ : MethodName) ∈ fh_T := fh_Tsel 45 (by decide +kernel) rfl
set_option maxRecDepth 100000 in
theorem qs_46 : Cond.selects "FollowedHoursModel" (⟨"FollowedHoursModel", "mostShown", "()I"⟩ : MethodName) (⟨"FollowedHoursModel", "mostShown", "()I"⟩ : MethodName) ∈ fh_T := fh_Tsel 46 (by decide +kernel) rfl
set_option maxRecDepth 100000 in
theorem qs_47 : Cond.selects "FollowedHoursModel" (⟨"FollowedHoursModel", "rightBehind", "(I)I"⟩ : MethodName) (⟨"FollowedHoursModel", "rightBehind", "(I)I"⟩ : MethodName) ∈ fh_T := fh_Tsel 47 (by decide +kernel) rfl
set_option maxRecDepth 100000 in
theorem qs_48 : Cond.selects "FollowedHoursModel" (⟨"FollowedHoursModel", "lacks", "(I)I"⟩ : MethodName) (⟨"FollowedHoursModel", "lacks", "(I)I"⟩ : MethodName) ∈ fh_T := fh_Tsel 48 (by decide +kernel) rfl
set_option maxRecDepth 100000 in
theorem qs_49 : Cond.selects "FollowedHoursModel" (⟨"FollowedHoursModel", "fitting", "(IIII)I"⟩ : MethodName) (⟨"FollowedHoursModel", "fitting", "(IIII)I"⟩ : MethodName) ∈ fh_T := fh_Tsel 49 (by decide +kernel) rfl
set_option maxRecDepth 100000 in
theorem qs_50 : Cond.selects "FollowedHoursModel" (⟨"FollowedHoursModel", "isShownSo", "(II)Z"⟩ : MethodName) (⟨"FollowedHoursModel", "isShownSo", "(II)Z"⟩ : MethodName) ∈ fh_T := fh_Tsel 50 (by decide +kernel) rfl
set_option maxRecDepth 100000 in
theorem qs_51 : Cond.selects "FollowedHoursModel" (⟨"FollowedHoursModel", "stillWith", "(II)I"⟩ : MethodName) (⟨"FollowedHoursModel", "stillWith", "(II)I"⟩ : MethodName) ∈ fh_T := fh_Tsel 51 (by decide +kernel) rfl
set_option maxRecDepth 100000 in
theorem qs_52 : Cond.selects "FollowedHoursModel" (⟨"FollowedHoursModel", "drawn", "()I"⟩ : MethodName) (⟨"FollowedHoursModel", "drawn", "()I"⟩ : MethodName) ∈ fh_T := fh_Tsel 52 (by decide +kernel) rfl
set_option maxRecDepth 100000 in
theorem qs_53 : Cond.selects "FollowedHoursModel" (⟨"FollowedHoursModel", "next", "()V"⟩ : MethodName) (⟨"FollowedHoursModel", "next", "()V"⟩ : MethodName) ∈ fh_T := fh_Tsel 53 (by decide +kernel) rfl
set_option maxRecDepth 100000 in
theorem qs_54 : Cond.selects "FollowedHoursModel" (⟨"FollowedHoursModel", "byteAt", "(I)I"⟩ : MethodName) (⟨"FollowedHoursModel", "byteAt", "(I)I"⟩ : MethodName) ∈ fh_T := fh_Tsel 54 (by decide +kernel) rfl
set_option maxRecDepth 100000 in
theorem qs_55 : Cond.selects "FollowedHoursModel" (⟨"FollowedHoursModel", "readItem", "()V"⟩ : MethodName) (⟨"FollowedHoursModel", "readItem", "()V"⟩ : MethodName) ∈ fh_T := fh_Tsel 55 (by decide +kernel) rfl
set_option maxRecDepth 100000 in
theorem qs_56 : Cond.selects "FollowedHoursModel" (⟨"FollowedHoursModel", "kindTold", "()I"⟩ : MethodName) (⟨"FollowedHoursModel", "kindTold", "()I"⟩ : MethodName) ∈ fh_T := fh_Tsel 56 (by decide +kernel) rfl
set_option maxRecDepth 100000 in
theorem qs_57 : Cond.selects "FollowedHoursModel" (⟨"FollowedHoursModel", "isWord", "(Ljava/lang/String;)Z"⟩ : MethodName) (⟨"FollowedHoursModel", "isWord", "(Ljava/lang/String;)Z"⟩ : MethodName) ∈ fh_T := fh_Tsel 57 (by decide +kernel) rfl
set_option maxRecDepth 100000 in
theorem qs_58 : Cond.selects "FollowedHoursModel" (⟨"FollowedHoursModel", "must", "(Z)V"⟩ : MethodName) (⟨"FollowedHoursModel", "must", "(Z)V"⟩ : MethodName) ∈ fh_T := fh_Tsel 58 (by decide +kernel) rfl
set_option maxRecDepth 100000 in
theorem qs_59 : Cond.selects "FollowedHoursModel" (⟨"FollowedHoursModel", "isNext", "(Ljava/lang/String;)Z"⟩ : MethodName) (⟨"FollowedHoursModel", "isNext", "(Ljava/lang/String;)Z"⟩ : MethodName) ∈ fh_T := fh_Tsel 59 (by decide +kernel) rfl
set_option maxRecDepth 100000 in
theorem qs_60 : Cond.selects "FollowedHoursModel" (⟨"FollowedHoursModel", "number", "(II)I"⟩ : MethodName) (⟨"FollowedHoursModel", "number", "(II)I"⟩ : MethodName) ∈ fh_T := fh_Tsel 60 (by decide +kernel) rfl
set_option maxRecDepth 100000 in
theorem qs_61 : Cond.selects "FollowedHoursModel" (⟨"FollowedHoursModel", "goesTold", "()I"⟩ : MethodName) (⟨"FollowedHoursModel", "goesTold", "()I"⟩ : MethodName) ∈ fh_T := fh_Tsel 61 (by decide +kernel) rfl
set_option maxRecDepth 100000 in
theorem qs_62 : Cond.selects "FollowedHoursModel" (⟨"FollowedHoursModel", "item", "(IIIIII)V"⟩ : MethodName) (⟨"FollowedHoursModel", "item", "(IIIIII)V"⟩ : MethodName) ∈ fh_T := fh_Tsel 62 (by decide +kernel) rfl
set_option maxRecDepth 100000 in
theorem qs_63 : Cond.selects "FollowedHoursModel" (⟨"FollowedHoursModel", "isToldSo", "(I)I"⟩ : MethodName) (⟨"FollowedHoursModel", "isToldSo", "(I)I"⟩ : MethodName) ∈ fh_T := fh_Tsel 63 (by decide +kernel) rfl
set_option maxRecDepth 100000 in
theorem q_1 : (Cond.initialized "FollowedHours") ∈ fh_T := fh_Tin 1 (by decide +kernel) rfl
set_option maxRecDepth 100000 in
theorem q_2 : (Cond.initialized "FollowedHours$Garden") ∈ fh_T := fh_Tin 2 (by decide +kernel) rfl
set_option maxRecDepth 100000 in
theorem q_3 : (Cond.initialized "FollowedHours$Tape") ∈ fh_T := fh_Tin 3 (by decide +kernel) rfl
set_option maxRecDepth 100000 in
theorem q_4 : (Cond.initialized "FollowedHours$Reader") ∈ fh_T := fh_Tin 4 (by decide +kernel) rfl
set_option maxRecDepth 100000 in
theorem q_5 : (Cond.initialized "FollowedHours$Sheet") ∈ fh_T := fh_Tin 5 (by decide +kernel) rfl
set_option maxRecDepth 100000 in
theorem q_6 : (Cond.initialized "FollowedHoursModel") ∈ fh_T := fh_Tin 6 (by decide +kernel) rfl
set_option maxRecDepth 100000 in
theorem q_7 : (Cond.initialized "java/lang/Math") ∈ fh_T := fh_Tin 7 (by decide +kernel) rfl
set_option maxRecDepth 100000 in
theorem q_8 : (Cond.initialized "java/lang/Integer") ∈ fh_T := fh_Tin 8 (by decide +kernel) rfl
set_option maxRecDepth 100000 in
theorem q_9 : (Cond.initialized "java/lang/System") ∈ fh_T := fh_Tin 9 (by decide +kernel) rfl
set_option maxRecDepth 100000 in
theorem q_10 : (Cond.initialized "java/lang/String") ∈ fh_T := fh_Tin 10 (by decide +kernel) rfl
set_option maxRecDepth 100000 in
theorem q_11 : (Cond.initialized "java/lang/StringLatin1") ∈ fh_T := fh_Tin 11 (by decide +kernel) rfl
set_option maxRecDepth 100000 in
theorem q_12 : (Cond.initialized "jdk/internal/util/Preconditions") ∈ fh_T := fh_Tin 12 (by decide +kernel) rfl
set_option maxRecDepth 100000 in
theorem q_28 : (Cond.fieldLink "FollowedHours$Garden" (9 : Nat) "FollowedHours$Garden" "kindOf" "[I") ∈ fh_T := fh_Tin 28 (by decide +kernel) rfl
set_option maxRecDepth 100000 in
theorem q_29 : (Cond.fieldLink "FollowedHours" (197 : Nat) "FollowedHours$Garden" "kindOf" "[I") ∈ fh_T := fh_Tin 29 (by decide +kernel) rfl
set_option maxRecDepth 100000 in
theorem q_30 : (Cond.fieldLink "FollowedHours$Garden" (15 : Nat) "FollowedHours$Garden" "hourOf" "[I") ∈ fh_T := fh_Tin 30 (by decide +kernel) rfl
set_option maxRecDepth 100000 in
theorem q_31 : (Cond.fieldLink "FollowedHours$Reader" (74 : Nat) "FollowedHours$Garden" "hourOf" "[I") ∈ fh_T := fh_Tin 31 (by decide +kernel) rfl
set_option maxRecDepth 100000 in
theorem q_32 : (Cond.fieldLink "FollowedHours" (92 : Nat) "FollowedHours$Garden" "hourOf" "[I") ∈ fh_T := fh_Tin 32 (by decide +kernel) rfl
set_option maxRecDepth 100000 in
theorem q_33 : (Cond.fieldLink "FollowedHours$Garden" (18 : Nat) "FollowedHours$Garden" "masterOf" "[I") ∈ fh_T := fh_Tin 33 (by decide +kernel) rfl
set_option maxRecDepth 100000 in
theorem q_34 : (Cond.fieldLink "FollowedHours$Reader" (57 : Nat) "FollowedHours$Garden" "masterOf" "[I") ∈ fh_T := fh_Tin 34 (by decide +kernel) rfl
set_option maxRecDepth 100000 in
theorem q_35 : (Cond.fieldLink "FollowedHours" (190 : Nat) "FollowedHours$Garden" "masterOf" "[I") ∈ fh_T := fh_Tin 35 (by decide +kernel) rfl
set_option maxRecDepth 100000 in
theorem q_36 : (Cond.fieldLink "FollowedHours$Garden" (21 : Nat) "FollowedHours$Garden" "goingOf" "[I") ∈ fh_T := fh_Tin 36 (by decide +kernel) rfl
set_option maxRecDepth 100000 in
theorem q_37 : (Cond.fieldLink "FollowedHours$Reader" (81 : Nat) "FollowedHours$Garden" "goingOf" "[I") ∈ fh_T := fh_Tin 37 (by decide +kernel) rfl
set_option maxRecDepth 100000 in
theorem q_38 : (Cond.fieldLink "FollowedHours" (121 : Nat) "FollowedHours$Garden" "goingOf" "[I") ∈ fh_T := fh_Tin 38 (by decide +kernel) rfl
set_option maxRecDepth 100000 in
theorem q_39 : (Cond.fieldLink "FollowedHours$Garden" (24 : Nat) "FollowedHours$Garden" "stopOf" "[I") ∈ fh_T := fh_Tin 39 (by decide +kernel) rfl
set_option maxRecDepth 100000 in
theorem q_40 : (Cond.fieldLink "FollowedHours$Garden" (27 : Nat) "FollowedHours$Garden" "mossOf" "[I") ∈ fh_T := fh_Tin 40 (by decide +kernel) rfl
set_option maxRecDepth 100000 in
theorem q_41 : (Cond.fieldLink "FollowedHours$Reader" (86 : Nat) "FollowedHours$Garden" "mossOf" "[I") ∈ fh_T := fh_Tin 41 (by decide +kernel) rfl
set_option maxRecDepth 100000 in
theorem q_42 : (Cond.fieldLink "FollowedHours$Garden" (30 : Nat) "FollowedHours$Garden" "spots" "[I") ∈ fh_T := fh_Tin 42 (by decide +kernel) rfl
set_option maxRecDepth 100000 in
theorem q_43 : (Cond.fieldLink "FollowedHours" (224 : Nat) "FollowedHours$Garden" "spots" "[I") ∈ fh_T := fh_Tin 43 (by decide +kernel) rfl
set_option maxRecDepth 100000 in
theorem q_44 : (Cond.fieldLink "FollowedHours$Garden" (33 : Nat) "FollowedHours$Garden" "nextGoing" "[I") ∈ fh_T := fh_Tin 44 (by decide +kernel) rfl
set_option maxRecDepth 100000 in
theorem q_45 : (Cond.fieldLink "FollowedHours$Garden" (36 : Nat) "FollowedHours$Garden" "markedGoing" "[I") ∈ fh_T := fh_Tin 45 (by decide +kernel) rfl
set_option maxRecDepth 100000 in
theorem q_46 : (Cond.fieldLink "FollowedHours$Garden" (39 : Nat) "FollowedHours$Garden" "size" "I") ∈ fh_T := fh_Tin 46 (by decide +kernel) rfl
set_option maxRecDepth 100000 in
theorem q_47 : (Cond.fieldLink "FollowedHours$Reader" (48 : Nat) "FollowedHours$Garden" "size" "I") ∈ fh_T := fh_Tin 47 (by decide +kernel) rfl
set_option maxRecDepth 100000 in
theorem q_48 : (Cond.fieldLink "FollowedHours" (136 : Nat) "FollowedHours$Garden" "size" "I") ∈ fh_T := fh_Tin 48 (by decide +kernel) rfl
set_option maxRecDepth 100000 in
theorem q_49 : (Cond.fieldLink "FollowedHours$Garden" (43 : Nat) "FollowedHours$Garden" "tick" "I") ∈ fh_T := fh_Tin 49 (by decide +kernel) rfl
set_option maxRecDepth 100000 in
theorem q_50 : (Cond.fieldLink "FollowedHours" (101 : Nat) "FollowedHours$Garden" "tick" "I") ∈ fh_T := fh_Tin 50 (by decide +kernel) rfl
set_option maxRecDepth 100000 in
theorem q_51 : (Cond.fieldLink "FollowedHours$Garden" (46 : Nat) "FollowedHours$Garden" "drawn" "I") ∈ fh_T := fh_Tin 51 (by decide +kernel) rfl
set_option maxRecDepth 100000 in
theorem q_52 : (Cond.fieldLink "FollowedHours" (210 : Nat) "FollowedHours$Garden" "drawn" "I") ∈ fh_T := fh_Tin 52 (by decide +kernel) rfl
set_option maxRecDepth 100000 in
theorem q_85 : (Cond.fieldLink "FollowedHours$Tape" (9 : Nat) "FollowedHours$Tape" "bytes" "[I") ∈ fh_T := fh_Tin 85 (by decide +kernel) rfl
set_option maxRecDepth 100000 in
theorem q_86 : (Cond.fieldLink "FollowedHours$Tape" (15 : Nat) "FollowedHours$Tape" "size" "I") ∈ fh_T := fh_Tin 86 (by decide +kernel) rfl
set_option maxRecDepth 100000 in
theorem q_87 : (Cond.fieldLink "FollowedHours" (213 : Nat) "FollowedHours$Tape" "size" "I") ∈ fh_T := fh_Tin 87 (by decide +kernel) rfl
set_option maxRecDepth 100000 in
theorem q_99 : (Cond.fieldLink "FollowedHours$Reader" (9 : Nat) "FollowedHours$Reader" "tape" "LFollowedHours$Tape;") ∈ fh_T := fh_Tin 99 (by decide +kernel) rfl
set_option maxRecDepth 100000 in
theorem q_100 : (Cond.fieldLink "FollowedHours$Reader" (42 : Nat) "FollowedHours$Reader" "sort" "I") ∈ fh_T := fh_Tin 100 (by decide +kernel) rfl
set_option maxRecDepth 100000 in
theorem q_101 : (Cond.fieldLink "FollowedHours$Reader" (95 : Nat) "FollowedHours$Reader" "begin" "I") ∈ fh_T := fh_Tin 101 (by decide +kernel) rfl
set_option maxRecDepth 100000 in
theorem q_102 : (Cond.fieldLink "FollowedHours$Reader" (19 : Nat) "FollowedHours$Reader" "end" "I") ∈ fh_T := fh_Tin 102 (by decide +kernel) rfl
set_option maxRecDepth 100000 in
theorem q_103 : (Cond.fieldLink "FollowedHours$Reader" (106 : Nat) "FollowedHours$Reader" "value" "I") ∈ fh_T := fh_Tin 103 (by decide +kernel) rfl
set_option maxRecDepth 100000 in
theorem q_104 : (Cond.fieldLink "FollowedHours$Reader" (15 : Nat) "FollowedHours$Reader" "fault" "I") ∈ fh_T := fh_Tin 104 (by decide +kernel) rfl
set_option maxRecDepth 100000 in
theorem q_125 : (Cond.fieldLink "FollowedHours$Sheet" (9 : Nat) "FollowedHours$Sheet" "numbers" "[I") ∈ fh_T := fh_Tin 125 (by decide +kernel) rfl
set_option maxRecDepth 100000 in
theorem q_126 : (Cond.fieldLink "FollowedHours" (252 : Nat) "FollowedHours$Sheet" "numbers" "[I") ∈ fh_T := fh_Tin 126 (by decide +kernel) rfl
set_option maxRecDepth 100000 in
theorem q_127 : (Cond.fieldLink "FollowedHours$Sheet" (15 : Nat) "FollowedHours$Sheet" "bits" "I") ∈ fh_T := fh_Tin 127 (by decide +kernel) rfl
set_option maxRecDepth 100000 in
theorem q_128 : (Cond.fieldLink "FollowedHours" (246 : Nat) "FollowedHours$Sheet" "bits" "I") ∈ fh_T := fh_Tin 128 (by decide +kernel) rfl
set_option maxRecDepth 100000 in
theorem q_129 : (Cond.fieldLink "FollowedHours$Sheet" (19 : Nat) "FollowedHours$Sheet" "size" "I") ∈ fh_T := fh_Tin 129 (by decide +kernel) rfl
set_option maxRecDepth 100000 in
theorem q_130 : (Cond.fieldLink "FollowedHours" (239 : Nat) "FollowedHours$Sheet" "size" "I") ∈ fh_T := fh_Tin 130 (by decide +kernel) rfl
set_option maxRecDepth 100000 in
theorem q_138 : (Cond.fieldLink "FollowedHours" (12 : Nat) "FollowedHours" "garden" "LFollowedHours$Garden;") ∈ fh_T := fh_Tin 138 (by decide +kernel) rfl
set_option maxRecDepth 100000 in
theorem q_139 : (Cond.fieldLink "FollowedHours" (16 : Nat) "FollowedHours" "kept" "LFollowedHours$Garden;") ∈ fh_T := fh_Tin 139 (by decide +kernel) rfl
set_option maxRecDepth 100000 in
theorem q_140 : (Cond.fieldLink "FollowedHours" (19 : Nat) "FollowedHours" "trial" "LFollowedHours$Garden;") ∈ fh_T := fh_Tin 140 (by decide +kernel) rfl
set_option maxRecDepth 100000 in
theorem q_141 : (Cond.fieldLink "FollowedHours" (25 : Nat) "FollowedHours" "tape" "LFollowedHours$Tape;") ∈ fh_T := fh_Tin 141 (by decide +kernel) rfl
set_option maxRecDepth 100000 in
theorem q_142 : (Cond.fieldLink "FollowedHours" (34 : Nat) "FollowedHours" "reader" "LFollowedHours$Reader;") ∈ fh_T := fh_Tin 142 (by decide +kernel) rfl
set_option maxRecDepth 100000 in
theorem q_143 : (Cond.fieldLink "FollowedHours" (40 : Nat) "FollowedHours" "sheets" "[LFollowedHours$Sheet;") ∈ fh_T := fh_Tin 143 (by decide +kernel) rfl
set_option maxRecDepth 100000 in
theorem q_144 : (Cond.fieldLink "FollowedHours" (45 : Nat) "FollowedHours" "findings" "[I") ∈ fh_T := fh_Tin 144 (by decide +kernel) rfl
set_option maxRecDepth 100000 in
theorem q_145 : (Cond.fieldLink "FollowedHours" (49 : Nat) "FollowedHours" "isKept" "Z") ∈ fh_T := fh_Tin 145 (by decide +kernel) rfl
set_option maxRecDepth 100000 in
theorem q_167 : (Cond.methodLink "FollowedHours" (53 : Nat) ({ cls := "FollowedHours", name := "isKind", desc := "(I)Z" } : Jvm.MethodName)) ∈ fh_T := fh_Tin 167 (by decide +kernel) rfl
set_option maxRecDepth 100000 in
theorem q_168 : (Cond.static ({ cls := "FollowedHours", name := "isKind", desc := "(I)Z" } : Jvm.MethodName)) ∈ fh_T := fh_Tin 168 (by decide +kernel) rfl
set_option maxRecDepth 100000 in
theorem q_169 : (Cond.code ({ cls := "FollowedHours", name := "isKind", desc := "(I)Z" } : Jvm.MethodName) prog_1_method_57_code (1 : Nat) (Option.some Jvm.ClassFile.FieldType.boolean)) ∈ fh_T := fh_Tin 169 (by decide +kernel) rfl
set_option maxRecDepth 100000 in
theorem q_170 : (Cond.fieldLink "FollowedHours" (174 : Nat) "FollowedHours" "UPPER_KIND" "[I") ∈ fh_T := fh_Tin 170 (by decide +kernel) rfl
set_option maxRecDepth 100000 in
theorem q_172 : (Cond.methodLink "FollowedHours" (84 : Nat) ({ cls := "FollowedHours", name := "isWithin", desc := "(III)Z" } : Jvm.MethodName)) ∈ fh_T := fh_Tin 172 (by decide +kernel) rfl
set_option maxRecDepth 100000 in
theorem q_173 : (Cond.static ({ cls := "FollowedHours", name := "isWithin", desc := "(III)Z" } : Jvm.MethodName)) ∈ fh_T := fh_Tin 173 (by decide +kernel) rfl
set_option maxRecDepth 100000 in
theorem q_174 : (Cond.code ({ cls := "FollowedHours", name := "isWithin", desc := "(III)Z" } : Jvm.MethodName) prog_1_method_56_code (3 : Nat) (Option.some Jvm.ClassFile.FieldType.boolean)) ∈ fh_T := fh_Tin 174 (by decide +kernel) rfl
set_option maxRecDepth 100000 in
theorem q_175 : (Cond.constant "FollowedHours" (57 : Nat) (-1000001 : Int32)) ∈ fh_T := fh_Tin 175 (by decide +kernel) rfl
set_option maxRecDepth 100000 in
theorem q_176 : (Cond.methodLink "FollowedHours" (58 : Nat) ({ cls := "FollowedHours", name := "tell", desc := "(I)I" } : Jvm.MethodName)) ∈ fh_T := fh_Tin 176 (by decide +kernel) rfl
set_option maxRecDepth 100000 in
theorem q_178 : (Cond.instanceMethod ({ cls := "FollowedHours", name := "tell", desc := "(I)I" } : Jvm.MethodName)) ∈ fh_T := fh_Tin 178 (by decide +kernel) rfl
set_option maxRecDepth 100000 in
theorem q_179 : (Cond.code ({ cls := "FollowedHours", name := "tell", desc := "(I)I" } : Jvm.MethodName) prog_1_method_50_code (3 : Nat) (Option.some Jvm.ClassFile.FieldType.int)) ∈ fh_T := fh_Tin 179 (by decide +kernel) rfl
set_option maxRecDepth 100000 in
theorem q_180 : (Cond.methodLink "FollowedHours" (62 : Nat) ({ cls := "FollowedHours$Garden", name := "isFull", desc := "()Z" } : Jvm.MethodName)) ∈ fh_T := fh_Tin 180 (by decide +kernel) rfl
set_option maxRecDepth 100000 in
theorem q_181 : (Cond.instanceMethod ({ cls := "FollowedHours$Garden", name := "isFull", desc := "()Z" } : Jvm.MethodName)) ∈ fh_T := fh_Tin 181 (by decide +kernel) rfl
set_option maxRecDepth 100000 in
theorem q_182 : (Cond.selects "FollowedHours$Garden" ({ cls := "FollowedHours$Garden", name := "isFull", desc := "()Z" } : Jvm.MethodName) ({ cls := "FollowedHours$Garden", name := "isFull", desc := "()Z" } : Jvm.MethodName)) ∈ fh_T := fh_Tin 182 (by decide +kernel) rfl
set_option maxRecDepth 100000 in
theorem q_183 : (Cond.code ({ cls := "FollowedHours$Garden", name := "isFull", desc := "()Z" } : Jvm.MethodName) prog_2_method_4_code (1 : Nat) (Option.some Jvm.ClassFile.FieldType.boolean)) ∈ fh_T := fh_Tin 183 (by decide +kernel) rfl
set_option maxRecDepth 100000 in
theorem q_184 : (Cond.constant "FollowedHours" (66 : Nat) (-1000002 : Int32)) ∈ fh_T := fh_Tin 184 (by decide +kernel) rfl
set_option maxRecDepth 100000 in
theorem q_185 : (Cond.methodLink "FollowedHours" (67 : Nat) ({ cls := "FollowedHours$Garden", name := "add", desc := "(I)I" } : Jvm.MethodName)) ∈ fh_T := fh_Tin 185 (by decide +kernel) rfl
set_option maxRecDepth 100000 in
theorem q_186 : (Cond.instanceMethod ({ cls := "FollowedHours$Garden", name := "add", desc := "(I)I" } : Jvm.MethodName)) ∈ fh_T := fh_Tin 186 (by decide +kernel) rfl
set_option maxRecDepth 100000 in
theorem q_187 : (Cond.selects "FollowedHours$Garden" ({ cls := "FollowedHours$Garden", name := "add", desc := "(I)I" } : Jvm.MethodName) ({ cls := "FollowedHours$Garden", name := "add", desc := "(I)I" } : Jvm.MethodName)) ∈ fh_T := fh_Tin 187 (by decide +kernel) rfl
set_option maxRecDepth 100000 in
theorem q_188 : (Cond.code ({ cls := "FollowedHours$Garden", name := "add", desc := "(I)I" } : Jvm.MethodName) prog_2_method_5_code (3 : Nat) (Option.some Jvm.ClassFile.FieldType.int)) ∈ fh_T := fh_Tin 188 (by decide +kernel) rfl
set_option maxRecDepth 100000 in
theorem q_189 : (Cond.methodLink "FollowedHours$Garden" (55 : Nat) ({ cls := "java/lang/Math", name := "min", desc := "(II)I" } : Jvm.MethodName)) ∈ fh_T := fh_Tin 189 (by decide +kernel) rfl
set_option maxRecDepth 100000 in
theorem q_190 : (Cond.static ({ cls := "java/lang/Math", name := "min", desc := "(II)I" } : Jvm.MethodName)) ∈ fh_T := fh_Tin 190 (by decide +kernel) rfl
set_option maxRecDepth 100000 in
theorem q_191 : (Cond.code ({ cls := "java/lang/Math", name := "min", desc := "(II)I" } : Jvm.MethodName) prog_9_method_69_code (2 : Nat) (Option.some Jvm.ClassFile.FieldType.int)) ∈ fh_T := fh_Tin 191 (by decide +kernel) rfl
set_option maxRecDepth 100000 in
theorem q_196 : (Cond.methodLink "FollowedHours" (70 : Nat) ({ cls := "FollowedHours$Garden", name := "has", desc := "(I)Z" } : Jvm.MethodName)) ∈ fh_T := fh_Tin 196 (by decide +kernel) rfl
set_option maxRecDepth 100000 in
theorem q_197 : (Cond.instanceMethod ({ cls := "FollowedHours$Garden", name := "has", desc := "(I)Z" } : Jvm.MethodName)) ∈ fh_T := fh_Tin 197 (by decide +kernel) rfl
set_option maxRecDepth 100000 in
theorem q_198 : (Cond.selects "FollowedHours$Garden" ({ cls := "FollowedHours$Garden", name := "has", desc := "(I)Z" } : Jvm.MethodName) ({ cls := "FollowedHours$Garden", name := "has", desc := "(I)Z" } : Jvm.MethodName)) ∈ fh_T := fh_Tin 198 (by decide +kernel) rfl
set_option maxRecDepth 100000 in
theorem q_199 : (Cond.code ({ cls := "FollowedHours$Garden", name := "has", desc := "(I)Z" } : Jvm.MethodName) prog_2_method_3_code (2 : Nat) (Option.some Jvm.ClassFile.FieldType.boolean)) ∈ fh_T := fh_Tin 199 (by decide +kernel) rfl
set_option maxRecDepth 100000 in
theorem q_200 : (Cond.methodLink "FollowedHours" (73 : Nat) ({ cls := "FollowedHours$Garden", name := "paceOf", desc := "(I)I" } : Jvm.MethodName)) ∈ fh_T := fh_Tin 200 (by decide +kernel) rfl
set_option maxRecDepth 100000 in
theorem q_201 : (Cond.instanceMethod ({ cls := "FollowedHours$Garden", name := "paceOf", desc := "(I)I" } : Jvm.MethodName)) ∈ fh_T := fh_Tin 201 (by decide +kernel) rfl
set_option maxRecDepth 100000 in
theorem q_202 : (Cond.selects "FollowedHours$Garden" ({ cls := "FollowedHours$Garden", name := "paceOf", desc := "(I)I" } : Jvm.MethodName) ({ cls := "FollowedHours$Garden", name := "paceOf", desc := "(I)I" } : Jvm.MethodName)) ∈ fh_T := fh_Tin 202 (by decide +kernel) rfl
set_option maxRecDepth 100000 in
theorem q_203 : (Cond.code ({ cls := "FollowedHours$Garden", name := "paceOf", desc := "(I)I" } : Jvm.MethodName) prog_2_method_12_code (6 : Nat) (Option.some Jvm.ClassFile.FieldType.int)) ∈ fh_T := fh_Tin 203 (by decide +kernel) rfl
set_option maxRecDepth 100000 in
theorem q_204 : (Cond.methodLink "FollowedHours$Garden" (80 : Nat) ({ cls := "FollowedHours$Garden", name := "paceBehind", desc := "(II)I" } : Jvm.MethodName)) ∈ fh_T := fh_Tin 204 (by decide +kernel) rfl
set_option maxRecDepth 100000 in
theorem q_206 : (Cond.instanceMethod ({ cls := "FollowedHours$Garden", name := "paceBehind", desc := "(II)I" } : Jvm.MethodName)) ∈ fh_T := fh_Tin 206 (by decide +kernel) rfl
set_option maxRecDepth 100000 in
theorem q_207 : (Cond.code ({ cls := "FollowedHours$Garden", name := "paceBehind", desc := "(II)I" } : Jvm.MethodName) prog_2_method_13_code (4 : Nat) (Option.some Jvm.ClassFile.FieldType.int)) ∈ fh_T := fh_Tin 207 (by decide +kernel) rfl
set_option maxRecDepth 100000 in
theorem q_208 : (Cond.methodLink "FollowedHours$Garden" (89 : Nat) ({ cls := "FollowedHours$Garden", name := "lateOf", desc := "(I)I" } : Jvm.MethodName)) ∈ fh_T := fh_Tin 208 (by decide +kernel) rfl
set_option maxRecDepth 100000 in
theorem q_209 : (Cond.static ({ cls := "FollowedHours$Garden", name := "lateOf", desc := "(I)I" } : Jvm.MethodName)) ∈ fh_T := fh_Tin 209 (by decide +kernel) rfl
set_option maxRecDepth 100000 in
theorem q_210 : (Cond.code ({ cls := "FollowedHours$Garden", name := "lateOf", desc := "(I)I" } : Jvm.MethodName) prog_2_method_14_code (1 : Nat) (Option.some Jvm.ClassFile.FieldType.int)) ∈ fh_T := fh_Tin 210 (by decide +kernel) rfl
set_option maxRecDepth 100000 in
theorem q_211 : (Cond.methodLink "FollowedHours$Garden" (83 : Nat) ({ cls := "java/lang/Math", name := "abs", desc := "(I)I" } : Jvm.MethodName)) ∈ fh_T := fh_Tin 211 (by decide +kernel) rfl
set_option maxRecDepth 100000 in
theorem q_212 : (Cond.static ({ cls := "java/lang/Math", name := "abs", desc := "(I)I" } : Jvm.MethodName)) ∈ fh_T := fh_Tin 212 (by decide +kernel) rfl
set_option maxRecDepth 100000 in
theorem q_213 : (Cond.code ({ cls := "java/lang/Math", name := "abs", desc := "(I)I" } : Jvm.MethodName) prog_9_method_59_code (1 : Nat) (Option.some Jvm.ClassFile.FieldType.int)) ∈ fh_T := fh_Tin 213 (by decide +kernel) rfl
set_option maxRecDepth 100000 in
theorem q_214 : (Cond.methodLink "FollowedHours$Garden" (86 : Nat) ({ cls := "java/lang/Math", name := "max", desc := "(II)I" } : Jvm.MethodName)) ∈ fh_T := fh_Tin 214 (by decide +kernel) rfl
set_option maxRecDepth 100000 in
theorem q_215 : (Cond.static ({ cls := "java/lang/Math", name := "max", desc := "(II)I" } : Jvm.MethodName)) ∈ fh_T := fh_Tin 215 (by decide +kernel) rfl
set_option maxRecDepth 100000 in
theorem q_216 : (Cond.code ({ cls := "java/lang/Math", name := "max", desc := "(II)I" } : Jvm.MethodName) prog_9_method_65_code (2 : Nat) (Option.some Jvm.ClassFile.FieldType.int)) ∈ fh_T := fh_Tin 216 (by decide +kernel) rfl
set_option maxRecDepth 100000 in
theorem q_217 : (Cond.methodLink "FollowedHours" (76 : Nat) ({ cls := "FollowedHours$Garden", name := "rowOf", desc := "(I)[I" } : Jvm.MethodName)) ∈ fh_T := fh_Tin 217 (by decide +kernel) rfl
set_option maxRecDepth 100000 in
theorem q_218 : (Cond.instanceMethod ({ cls := "FollowedHours$Garden", name := "rowOf", desc := "(I)[I" } : Jvm.MethodName)) ∈ fh_T := fh_Tin 218 (by decide +kernel) rfl
set_option maxRecDepth 100000 in
theorem q_219 : (Cond.selects "FollowedHours$Garden" ({ cls := "FollowedHours$Garden", name := "rowOf", desc := "(I)[I" } : Jvm.MethodName) ({ cls := "FollowedHours$Garden", name := "rowOf", desc := "(I)[I" } : Jvm.MethodName)) ∈ fh_T := fh_Tin 219 (by decide +kernel) rfl
set_option maxRecDepth 100000 in
theorem q_220 : (Cond.code ({ cls := "FollowedHours$Garden", name := "rowOf", desc := "(I)[I" } : Jvm.MethodName) prog_2_method_6_code (2 : Nat) (Option.some (Jvm.ClassFile.FieldType.array Jvm.ClassFile.FieldType.int))) ∈ fh_T := fh_Tin 220 (by decide +kernel) rfl
set_option maxRecDepth 100000 in
theorem q_225 : (Cond.methodLink "FollowedHours" (80 : Nat) ({ cls := "FollowedHours$Garden", name := "mayBecome", desc := "(II)Z" } : Jvm.MethodName)) ∈ fh_T := fh_Tin 225 (by decide +kernel) rfl
set_option maxRecDepth 100000 in
theorem q_226 : (Cond.instanceMethod ({ cls := "FollowedHours$Garden", name := "mayBecome", desc := "(II)Z" } : Jvm.MethodName)) ∈ fh_T := fh_Tin 226 (by decide +kernel) rfl
set_option maxRecDepth 100000 in
theorem q_227 : (Cond.selects "FollowedHours$Garden" ({ cls := "FollowedHours$Garden", name := "mayBecome", desc := "(II)Z" } : Jvm.MethodName) ({ cls := "FollowedHours$Garden", name := "mayBecome", desc := "(II)Z" } : Jvm.MethodName)) ∈ fh_T := fh_Tin 227 (by decide +kernel) rfl
set_option maxRecDepth 100000 in
theorem q_228 : (Cond.code ({ cls := "FollowedHours$Garden", name := "mayBecome", desc := "(II)Z" } : Jvm.MethodName) prog_2_method_7_code (3 : Nat) (Option.some Jvm.ClassFile.FieldType.boolean)) ∈ fh_T := fh_Tin 228 (by decide +kernel) rfl
set_option maxRecDepth 100000 in
theorem q_231 : (Cond.static ({ cls := "FollowedHours", name := "isHour", desc := "(I)Z" } : Jvm.MethodName)) ∈ fh_T := fh_Tin 231 (by decide +kernel) rfl
set_option maxRecDepth 100000 in
theorem q_232 : (Cond.code ({ cls := "FollowedHours", name := "isHour", desc := "(I)Z" } : Jvm.MethodName) prog_1_method_58_code (1 : Nat) (Option.some Jvm.ClassFile.FieldType.boolean)) ∈ fh_T := fh_Tin 232 (by decide +kernel) rfl
set_option maxRecDepth 100000 in
theorem q_233 : (Cond.methodLink "FollowedHours$Garden" (68 : Nat) ({ cls := "FollowedHours$Garden", name := "has", desc := "(I)Z" } : Jvm.MethodName)) ∈ fh_T := fh_Tin 233 (by decide +kernel) rfl
set_option maxRecDepth 100000 in
theorem q_239 : (Cond.methodLink "FollowedHours" (88 : Nat) ({ cls := "FollowedHours$Garden", name := "turn", desc := "(II)V" } : Jvm.MethodName)) ∈ fh_T := fh_Tin 239 (by decide +kernel) rfl
set_option maxRecDepth 100000 in
theorem q_240 : (Cond.instanceMethod ({ cls := "FollowedHours$Garden", name := "turn", desc := "(II)V" } : Jvm.MethodName)) ∈ fh_T := fh_Tin 240 (by decide +kernel) rfl
set_option maxRecDepth 100000 in
theorem q_241 : (Cond.selects "FollowedHours$Garden" ({ cls := "FollowedHours$Garden", name := "turn", desc := "(II)V" } : Jvm.MethodName) ({ cls := "FollowedHours$Garden", name := "turn", desc := "(II)V" } : Jvm.MethodName)) ∈ fh_T := fh_Tin 241 (by decide +kernel) rfl
set_option maxRecDepth 100000 in
theorem q_242 : (Cond.code ({ cls := "FollowedHours$Garden", name := "turn", desc := "(II)V" } : Jvm.MethodName) prog_2_method_8_code (3 : Nat) (Option.none : Option Jvm.ClassFile.FieldType)) ∈ fh_T := fh_Tin 242 (by decide +kernel) rfl
set_option maxRecDepth 100000 in
theorem q_244 : (Cond.static ({ cls := "FollowedHours", name := "roundHour", desc := "(I)I" } : Jvm.MethodName)) ∈ fh_T := fh_Tin 244 (by decide +kernel) rfl
set_option maxRecDepth 100000 in
theorem q_245 : (Cond.code ({ cls := "FollowedHours", name := "roundHour", desc := "(I)I" } : Jvm.MethodName) prog_1_method_63_code (1 : Nat) (Option.some Jvm.ClassFile.FieldType.int)) ∈ fh_T := fh_Tin 245 (by decide +kernel) rfl
set_option maxRecDepth 100000 in
theorem q_246 : (Cond.methodLink "FollowedHours" (281 : Nat) ({ cls := "java/lang/Math", name := "floorMod", desc := "(II)I" } : Jvm.MethodName)) ∈ fh_T := fh_Tin 246 (by decide +kernel) rfl
set_option maxRecDepth 100000 in
theorem q_247 : (Cond.static ({ cls := "java/lang/Math", name := "floorMod", desc := "(II)I" } : Jvm.MethodName)) ∈ fh_T := fh_Tin 247 (by decide +kernel) rfl
set_option maxRecDepth 100000 in
theorem q_248 : (Cond.code ({ cls := "java/lang/Math", name := "floorMod", desc := "(II)I" } : Jvm.MethodName) prog_9_method_50_code (3 : Nat) (Option.some Jvm.ClassFile.FieldType.int)) ∈ fh_T := fh_Tin 248 (by decide +kernel) rfl
set_option maxRecDepth 100000 in
theorem q_253 : (Cond.methodLink "FollowedHours" (95 : Nat) ({ cls := "FollowedHours$Garden", name := "freeze", desc := "(I)Z" } : Jvm.MethodName)) ∈ fh_T := fh_Tin 253 (by decide +kernel) rfl
set_option maxRecDepth 100000 in
theorem q_254 : (Cond.instanceMethod ({ cls := "FollowedHours$Garden", name := "freeze", desc := "(I)Z" } : Jvm.MethodName)) ∈ fh_T := fh_Tin 254 (by decide +kernel) rfl
set_option maxRecDepth 100000 in
theorem q_255 : (Cond.selects "FollowedHours$Garden" ({ cls := "FollowedHours$Garden", name := "freeze", desc := "(I)Z" } : Jvm.MethodName) ({ cls := "FollowedHours$Garden", name := "freeze", desc := "(I)Z" } : Jvm.MethodName)) ∈ fh_T := fh_Tin 255 (by decide +kernel) rfl
set_option maxRecDepth 100000 in
theorem q_256 : (Cond.code ({ cls := "FollowedHours$Garden", name := "freeze", desc := "(I)Z" } : Jvm.MethodName) prog_2_method_9_code (2 : Nat) (Option.some Jvm.ClassFile.FieldType.boolean)) ∈ fh_T := fh_Tin 256 (by decide +kernel) rfl
set_option maxRecDepth 100000 in
theorem q_257 : (Cond.methodLink "FollowedHours" (98 : Nat) ({ cls := "FollowedHours$Garden", name := "thaw", desc := "(I)Z" } : Jvm.MethodName)) ∈ fh_T := fh_Tin 257 (by decide +kernel) rfl
set_option maxRecDepth 100000 in
theorem q_258 : (Cond.instanceMethod ({ cls := "FollowedHours$Garden", name := "thaw", desc := "(I)Z" } : Jvm.MethodName)) ∈ fh_T := fh_Tin 258 (by decide +kernel) rfl
set_option maxRecDepth 100000 in
theorem q_259 : (Cond.selects "FollowedHours$Garden" ({ cls := "FollowedHours$Garden", name := "thaw", desc := "(I)Z" } : Jvm.MethodName) ({ cls := "FollowedHours$Garden", name := "thaw", desc := "(I)Z" } : Jvm.MethodName)) ∈ fh_T := fh_Tin 259 (by decide +kernel) rfl
set_option maxRecDepth 100000 in
theorem q_260 : (Cond.code ({ cls := "FollowedHours$Garden", name := "thaw", desc := "(I)Z" } : Jvm.MethodName) prog_2_method_10_code (2 : Nat) (Option.some Jvm.ClassFile.FieldType.boolean)) ∈ fh_T := fh_Tin 260 (by decide +kernel) rfl
set_option maxRecDepth 100000 in
theorem q_265 : (Cond.constant "FollowedHours" (105 : Nat) (99999 : Int32)) ∈ fh_T := fh_Tin 265 (by decide +kernel) rfl
set_option maxRecDepth 100000 in
theorem q_266 : (Cond.constant "FollowedHours" (106 : Nat) (-1000005 : Int32)) ∈ fh_T := fh_Tin 266 (by decide +kernel) rfl
set_option maxRecDepth 100000 in
theorem q_267 : (Cond.methodLink "FollowedHours" (107 : Nat) ({ cls := "FollowedHours$Garden", name := "passTicks", desc := "(I)V" } : Jvm.MethodName)) ∈ fh_T := fh_Tin 267 (by decide +kernel) rfl
set_option maxRecDepth 100000 in
theorem q_268 : (Cond.instanceMethod ({ cls := "FollowedHours$Garden", name := "passTicks", desc := "(I)V" } : Jvm.MethodName)) ∈ fh_T := fh_Tin 268 (by decide +kernel) rfl
set_option maxRecDepth 100000 in
theorem q_269 : (Cond.selects "FollowedHours$Garden" ({ cls := "FollowedHours$Garden", name := "passTicks", desc := "(I)V" } : Jvm.MethodName) ({ cls := "FollowedHours$Garden", name := "passTicks", desc := "(I)V" } : Jvm.MethodName)) ∈ fh_T := fh_Tin 269 (by decide +kernel) rfl
set_option maxRecDepth 100000 in
theorem q_270 : (Cond.code ({ cls := "FollowedHours$Garden", name := "passTicks", desc := "(I)V" } : Jvm.MethodName) prog_2_method_16_code (3 : Nat) (Option.none : Option Jvm.ClassFile.FieldType)) ∈ fh_T := fh_Tin 270 (by decide +kernel) rfl
set_option maxRecDepth 100000 in
theorem q_271 : (Cond.methodLink "FollowedHours$Garden" (100 : Nat) ({ cls := "FollowedHours$Garden", name := "passTick", desc := "()V" } : Jvm.MethodName)) ∈ fh_T := fh_Tin 271 (by decide +kernel) rfl
set_option maxRecDepth 100000 in
theorem q_272 : (Cond.instanceMethod ({ cls := "FollowedHours$Garden", name := "passTick", desc := "()V" } : Jvm.MethodName)) ∈ fh_T := fh_Tin 272 (by decide +kernel) rfl
set_option maxRecDepth 100000 in
theorem q_273 : (Cond.selects "FollowedHours$Garden" ({ cls := "FollowedHours$Garden", name := "passTick", desc := "()V" } : Jvm.MethodName) ({ cls := "FollowedHours$Garden", name := "passTick", desc := "()V" } : Jvm.MethodName)) ∈ fh_T := fh_Tin 273 (by decide +kernel) rfl
set_option maxRecDepth 100000 in
theorem q_274 : (Cond.code ({ cls := "FollowedHours$Garden", name := "passTick", desc := "()V" } : Jvm.MethodName) prog_2_method_15_code (2 : Nat) (Option.none : Option Jvm.ClassFile.FieldType)) ∈ fh_T := fh_Tin 274 (by decide +kernel) rfl
set_option maxRecDepth 100000 in
theorem q_275 : (Cond.methodLink "FollowedHours$Garden" (92 : Nat) ({ cls := "FollowedHours$Garden", name := "paceOf", desc := "(I)I" } : Jvm.MethodName)) ∈ fh_T := fh_Tin 275 (by decide +kernel) rfl
set_option maxRecDepth 100000 in
theorem q_276 : (Cond.methodLink "FollowedHours$Garden" (95 : Nat) ({ cls := "FollowedHours$Garden", name := "turn", desc := "(II)V" } : Jvm.MethodName)) ∈ fh_T := fh_Tin 276 (by decide +kernel) rfl
set_option maxRecDepth 100000 in
theorem q_277 : (Cond.constant "FollowedHours$Garden" (99 : Nat) (99999 : Int32)) ∈ fh_T := fh_Tin 277 (by decide +kernel) rfl
set_option maxRecDepth 100000 in
theorem q_282 : (Cond.methodLink "FollowedHours" (111 : Nat) ({ cls := "FollowedHours$Garden", name := "stoppedSet", desc := "()I" } : Jvm.MethodName)) ∈ fh_T := fh_Tin 282 (by decide +kernel) rfl
set_option maxRecDepth 100000 in
theorem q_283 : (Cond.instanceMethod ({ cls := "FollowedHours$Garden", name := "stoppedSet", desc := "()I" } : Jvm.MethodName)) ∈ fh_T := fh_Tin 283 (by decide +kernel) rfl
set_option maxRecDepth 100000 in
theorem q_284 : (Cond.selects "FollowedHours$Garden" ({ cls := "FollowedHours$Garden", name := "stoppedSet", desc := "()I" } : Jvm.MethodName) ({ cls := "FollowedHours$Garden", name := "stoppedSet", desc := "()I" } : Jvm.MethodName)) ∈ fh_T := fh_Tin 284 (by decide +kernel) rfl
set_option maxRecDepth 100000 in
theorem q_285 : (Cond.code ({ cls := "FollowedHours$Garden", name := "stoppedSet", desc := "()I" } : Jvm.MethodName) prog_2_method_20_code (1 : Nat) (Option.some Jvm.ClassFile.FieldType.int)) ∈ fh_T := fh_Tin 285 (by decide +kernel) rfl
set_option maxRecDepth 100000 in
theorem q_286 : (Cond.methodLink "FollowedHours$Garden" (110 : Nat) ({ cls := "FollowedHours$Garden", name := "setWhere", desc := "([II)I" } : Jvm.MethodName)) ∈ fh_T := fh_Tin 286 (by decide +kernel) rfl
set_option maxRecDepth 100000 in
theorem q_288 : (Cond.instanceMethod ({ cls := "FollowedHours$Garden", name := "setWhere", desc := "([II)I" } : Jvm.MethodName)) ∈ fh_T := fh_Tin 288 (by decide +kernel) rfl
set_option maxRecDepth 100000 in
theorem q_289 : (Cond.code ({ cls := "FollowedHours$Garden", name := "setWhere", desc := "([II)I" } : Jvm.MethodName) prog_2_method_22_code (5 : Nat) (Option.some Jvm.ClassFile.FieldType.int)) ∈ fh_T := fh_Tin 289 (by decide +kernel) rfl
set_option maxRecDepth 100000 in
theorem q_290 : (Cond.methodLink "FollowedHours" (115 : Nat) ({ cls := "FollowedHours$Garden", name := "stillSet", desc := "()I" } : Jvm.MethodName)) ∈ fh_T := fh_Tin 290 (by decide +kernel) rfl
set_option maxRecDepth 100000 in
theorem q_291 : (Cond.instanceMethod ({ cls := "FollowedHours$Garden", name := "stillSet", desc := "()I" } : Jvm.MethodName)) ∈ fh_T := fh_Tin 291 (by decide +kernel) rfl
set_option maxRecDepth 100000 in
theorem q_292 : (Cond.selects "FollowedHours$Garden" ({ cls := "FollowedHours$Garden", name := "stillSet", desc := "()I" } : Jvm.MethodName) ({ cls := "FollowedHours$Garden", name := "stillSet", desc := "()I" } : Jvm.MethodName)) ∈ fh_T := fh_Tin 292 (by decide +kernel) rfl
set_option maxRecDepth 100000 in
theorem q_293 : (Cond.code ({ cls := "FollowedHours$Garden", name := "stillSet", desc := "()I" } : Jvm.MethodName) prog_2_method_21_code (1 : Nat) (Option.some Jvm.ClassFile.FieldType.int)) ∈ fh_T := fh_Tin 293 (by decide +kernel) rfl
set_option maxRecDepth 100000 in
theorem q_294 : (Cond.methodLink "FollowedHours" (118 : Nat) ({ cls := "FollowedHours$Garden", name := "ownMasterSet", desc := "()I" } : Jvm.MethodName)) ∈ fh_T := fh_Tin 294 (by decide +kernel) rfl
set_option maxRecDepth 100000 in
theorem q_295 : (Cond.instanceMethod ({ cls := "FollowedHours$Garden", name := "ownMasterSet", desc := "()I" } : Jvm.MethodName)) ∈ fh_T := fh_Tin 295 (by decide +kernel) rfl
set_option maxRecDepth 100000 in
theorem q_296 : (Cond.selects "FollowedHours$Garden" ({ cls := "FollowedHours$Garden", name := "ownMasterSet", desc := "()I" } : Jvm.MethodName) ({ cls := "FollowedHours$Garden", name := "ownMasterSet", desc := "()I" } : Jvm.MethodName)) ∈ fh_T := fh_Tin 296 (by decide +kernel) rfl
set_option maxRecDepth 100000 in
theorem q_297 : (Cond.code ({ cls := "FollowedHours$Garden", name := "ownMasterSet", desc := "()I" } : Jvm.MethodName) prog_2_method_23_code (3 : Nat) (Option.some Jvm.ClassFile.FieldType.int)) ∈ fh_T := fh_Tin 297 (by decide +kernel) rfl
set_option maxRecDepth 100000 in
theorem q_298 : (Cond.methodLink "FollowedHours" (124 : Nat) ({ cls := "FollowedHours$Garden", name := "sumOf", desc := "([I)I" } : Jvm.MethodName)) ∈ fh_T := fh_Tin 298 (by decide +kernel) rfl
set_option maxRecDepth 100000 in
theorem q_299 : (Cond.instanceMethod ({ cls := "FollowedHours$Garden", name := "sumOf", desc := "([I)I" } : Jvm.MethodName)) ∈ fh_T := fh_Tin 299 (by decide +kernel) rfl
set_option maxRecDepth 100000 in
theorem q_300 : (Cond.selects "FollowedHours$Garden" ({ cls := "FollowedHours$Garden", name := "sumOf", desc := "([I)I" } : Jvm.MethodName) ({ cls := "FollowedHours$Garden", name := "sumOf", desc := "([I)I" } : Jvm.MethodName)) ∈ fh_T := fh_Tin 300 (by decide +kernel) rfl
set_option maxRecDepth 100000 in
theorem q_301 : (Cond.code ({ cls := "FollowedHours$Garden", name := "sumOf", desc := "([I)I" } : Jvm.MethodName) prog_2_method_24_code (4 : Nat) (Option.some Jvm.ClassFile.FieldType.int)) ∈ fh_T := fh_Tin 301 (by decide +kernel) rfl
set_option maxRecDepth 100000 in
theorem q_302 : (Cond.methodLink "FollowedHours" (128 : Nat) ({ cls := "FollowedHours$Garden", name := "alikeSet", desc := "()I" } : Jvm.MethodName)) ∈ fh_T := fh_Tin 302 (by decide +kernel) rfl
set_option maxRecDepth 100000 in
theorem q_303 : (Cond.instanceMethod ({ cls := "FollowedHours$Garden", name := "alikeSet", desc := "()I" } : Jvm.MethodName)) ∈ fh_T := fh_Tin 303 (by decide +kernel) rfl
set_option maxRecDepth 100000 in
theorem q_304 : (Cond.selects "FollowedHours$Garden" ({ cls := "FollowedHours$Garden", name := "alikeSet", desc := "()I" } : Jvm.MethodName) ({ cls := "FollowedHours$Garden", name := "alikeSet", desc := "()I" } : Jvm.MethodName)) ∈ fh_T := fh_Tin 304 (by decide +kernel) rfl
set_option maxRecDepth 100000 in
theorem q_305 : (Cond.code ({ cls := "FollowedHours$Garden", name := "alikeSet", desc := "()I" } : Jvm.MethodName) prog_2_method_26_code (6 : Nat) (Option.some Jvm.ClassFile.FieldType.int)) ∈ fh_T := fh_Tin 305 (by decide +kernel) rfl
set_option maxRecDepth 100000 in
theorem q_306 : (Cond.methodLink "FollowedHours$Garden" (114 : Nat) ({ cls := "java/lang/Integer", name := "bitCount", desc := "(I)I" } : Jvm.MethodName)) ∈ fh_T := fh_Tin 306 (by decide +kernel) rfl
set_option maxRecDepth 100000 in
theorem q_307 : (Cond.static ({ cls := "java/lang/Integer", name := "bitCount", desc := "(I)I" } : Jvm.MethodName)) ∈ fh_T := fh_Tin 307 (by decide +kernel) rfl
set_option maxRecDepth 100000 in
theorem q_308 : (Cond.code ({ cls := "java/lang/Integer", name := "bitCount", desc := "(I)I" } : Jvm.MethodName) prog_8_method_49_code (1 : Nat) (Option.some Jvm.ClassFile.FieldType.int)) ∈ fh_T := fh_Tin 308 (by decide +kernel) rfl
set_option maxRecDepth 100000 in
theorem q_309 : (Cond.constant "java/lang/Integer" (265 : Nat) (1431655765 : Int32)) ∈ fh_T := fh_Tin 309 (by decide +kernel) rfl
set_option maxRecDepth 100000 in
theorem q_310 : (Cond.constant "java/lang/Integer" (266 : Nat) (858993459 : Int32)) ∈ fh_T := fh_Tin 310 (by decide +kernel) rfl
set_option maxRecDepth 100000 in
theorem q_311 : (Cond.constant "java/lang/Integer" (267 : Nat) (252645135 : Int32)) ∈ fh_T := fh_Tin 311 (by decide +kernel) rfl
set_option maxRecDepth 100000 in
theorem q_312 : (Cond.methodLink "FollowedHours" (131 : Nat) ({ cls := "java/lang/Integer", name := "bitCount", desc := "(I)I" } : Jvm.MethodName)) ∈ fh_T := fh_Tin 312 (by decide +kernel) rfl
set_option maxRecDepth 100000 in
theorem q_317 : (Cond.methodLink "FollowedHours" (139 : Nat) ({ cls := "FollowedHours$Garden", name := "waySet", desc := "(I)I" } : Jvm.MethodName)) ∈ fh_T := fh_Tin 317 (by decide +kernel) rfl
set_option maxRecDepth 100000 in
theorem q_318 : (Cond.instanceMethod ({ cls := "FollowedHours$Garden", name := "waySet", desc := "(I)I" } : Jvm.MethodName)) ∈ fh_T := fh_Tin 318 (by decide +kernel) rfl
set_option maxRecDepth 100000 in
theorem q_319 : (Cond.selects "FollowedHours$Garden" ({ cls := "FollowedHours$Garden", name := "waySet", desc := "(I)I" } : Jvm.MethodName) ({ cls := "FollowedHours$Garden", name := "waySet", desc := "(I)I" } : Jvm.MethodName)) ∈ fh_T := fh_Tin 319 (by decide +kernel) rfl
set_option maxRecDepth 100000 in
theorem q_320 : (Cond.code ({ cls := "FollowedHours$Garden", name := "waySet", desc := "(I)I" } : Jvm.MethodName) prog_2_method_27_code (5 : Nat) (Option.some Jvm.ClassFile.FieldType.int)) ∈ fh_T := fh_Tin 320 (by decide +kernel) rfl
set_option maxRecDepth 100000 in
theorem q_325 : (Cond.methodLink "FollowedHours" (142 : Nat) ({ cls := "FollowedHours$Garden", name := "ringSet", desc := "(I)I" } : Jvm.MethodName)) ∈ fh_T := fh_Tin 325 (by decide +kernel) rfl
set_option maxRecDepth 100000 in
theorem q_326 : (Cond.instanceMethod ({ cls := "FollowedHours$Garden", name := "ringSet", desc := "(I)I" } : Jvm.MethodName)) ∈ fh_T := fh_Tin 326 (by decide +kernel) rfl
set_option maxRecDepth 100000 in
theorem q_327 : (Cond.selects "FollowedHours$Garden" ({ cls := "FollowedHours$Garden", name := "ringSet", desc := "(I)I" } : Jvm.MethodName) ({ cls := "FollowedHours$Garden", name := "ringSet", desc := "(I)I" } : Jvm.MethodName)) ∈ fh_T := fh_Tin 327 (by decide +kernel) rfl
set_option maxRecDepth 100000 in
theorem q_328 : (Cond.code ({ cls := "FollowedHours$Garden", name := "ringSet", desc := "(I)I" } : Jvm.MethodName) prog_2_method_28_code (4 : Nat) (Option.some Jvm.ClassFile.FieldType.int)) ∈ fh_T := fh_Tin 328 (by decide +kernel) rfl
set_option maxRecDepth 100000 in
theorem q_329 : (Cond.methodLink "FollowedHours$Garden" (119 : Nat) ({ cls := "FollowedHours$Garden", name := "waySet", desc := "(I)I" } : Jvm.MethodName)) ∈ fh_T := fh_Tin 329 (by decide +kernel) rfl
set_option maxRecDepth 100000 in
theorem q_334 : (Cond.methodLink "FollowedHours" (145 : Nat) ({ cls := "FollowedHours$Garden", name := "ringCount", desc := "()I" } : Jvm.MethodName)) ∈ fh_T := fh_Tin 334 (by decide +kernel) rfl
set_option maxRecDepth 100000 in
theorem q_335 : (Cond.instanceMethod ({ cls := "FollowedHours$Garden", name := "ringCount", desc := "()I" } : Jvm.MethodName)) ∈ fh_T := fh_Tin 335 (by decide +kernel) rfl
set_option maxRecDepth 100000 in
theorem q_336 : (Cond.selects "FollowedHours$Garden" ({ cls := "FollowedHours$Garden", name := "ringCount", desc := "()I" } : Jvm.MethodName) ({ cls := "FollowedHours$Garden", name := "ringCount", desc := "()I" } : Jvm.MethodName)) ∈ fh_T := fh_Tin 336 (by decide +kernel) rfl
set_option maxRecDepth 100000 in
theorem q_337 : (Cond.code ({ cls := "FollowedHours$Garden", name := "ringCount", desc := "()I" } : Jvm.MethodName) prog_2_method_29_code (3 : Nat) (Option.some Jvm.ClassFile.FieldType.int)) ∈ fh_T := fh_Tin 337 (by decide +kernel) rfl
set_option maxRecDepth 100000 in
theorem q_338 : (Cond.methodLink "FollowedHours$Garden" (122 : Nat) ({ cls := "FollowedHours$Garden", name := "ringSet", desc := "(I)I" } : Jvm.MethodName)) ∈ fh_T := fh_Tin 338 (by decide +kernel) rfl
set_option maxRecDepth 100000 in
theorem q_340 : (Cond.static ({ cls := "FollowedHours", name := "lowestOf", desc := "(I)I" } : Jvm.MethodName)) ∈ fh_T := fh_Tin 340 (by decide +kernel) rfl
set_option maxRecDepth 100000 in
theorem q_341 : (Cond.code ({ cls := "FollowedHours", name := "lowestOf", desc := "(I)I" } : Jvm.MethodName) prog_1_method_62_code (1 : Nat) (Option.some Jvm.ClassFile.FieldType.int)) ∈ fh_T := fh_Tin 341 (by decide +kernel) rfl
set_option maxRecDepth 100000 in
theorem q_342 : (Cond.methodLink "FollowedHours" (278 : Nat) ({ cls := "java/lang/Integer", name := "numberOfTrailingZeros", desc := "(I)I" } : Jvm.MethodName)) ∈ fh_T := fh_Tin 342 (by decide +kernel) rfl
set_option maxRecDepth 100000 in
theorem q_343 : (Cond.static ({ cls := "java/lang/Integer", name := "numberOfTrailingZeros", desc := "(I)I" } : Jvm.MethodName)) ∈ fh_T := fh_Tin 343 (by decide +kernel) rfl
set_option maxRecDepth 100000 in
theorem q_344 : (Cond.code ({ cls := "java/lang/Integer", name := "numberOfTrailingZeros", desc := "(I)I" } : Jvm.MethodName) prog_8_method_48_code (2 : Nat) (Option.some Jvm.ClassFile.FieldType.int)) ∈ fh_T := fh_Tin 344 (by decide +kernel) rfl
set_option maxRecDepth 100000 in
theorem q_345 : (Cond.constant "java/lang/Integer" (264 : Nat) (65536 : Int32)) ∈ fh_T := fh_Tin 345 (by decide +kernel) rfl
set_option maxRecDepth 100000 in
theorem q_350 : (Cond.methodLink "FollowedHours" (148 : Nat) ({ cls := "FollowedHours$Garden", name := "stepsToRing", desc := "(I)I" } : Jvm.MethodName)) ∈ fh_T := fh_Tin 350 (by decide +kernel) rfl
set_option maxRecDepth 100000 in
theorem q_351 : (Cond.instanceMethod ({ cls := "FollowedHours$Garden", name := "stepsToRing", desc := "(I)I" } : Jvm.MethodName)) ∈ fh_T := fh_Tin 351 (by decide +kernel) rfl
set_option maxRecDepth 100000 in
theorem q_352 : (Cond.selects "FollowedHours$Garden" ({ cls := "FollowedHours$Garden", name := "stepsToRing", desc := "(I)I" } : Jvm.MethodName) ({ cls := "FollowedHours$Garden", name := "stepsToRing", desc := "(I)I" } : Jvm.MethodName)) ∈ fh_T := fh_Tin 352 (by decide +kernel) rfl
set_option maxRecDepth 100000 in
theorem q_353 : (Cond.code ({ cls := "FollowedHours$Garden", name := "stepsToRing", desc := "(I)I" } : Jvm.MethodName) prog_2_method_30_code (6 : Nat) (Option.some Jvm.ClassFile.FieldType.int)) ∈ fh_T := fh_Tin 353 (by decide +kernel) rfl
set_option maxRecDepth 100000 in
theorem q_355 : (Cond.static ({ cls := "FollowedHours", name := "isIn", desc := "(II)Z" } : Jvm.MethodName)) ∈ fh_T := fh_Tin 355 (by decide +kernel) rfl
set_option maxRecDepth 100000 in
theorem q_356 : (Cond.code ({ cls := "FollowedHours", name := "isIn", desc := "(II)Z" } : Jvm.MethodName) prog_1_method_61_code (2 : Nat) (Option.some Jvm.ClassFile.FieldType.boolean)) ∈ fh_T := fh_Tin 356 (by decide +kernel) rfl
set_option maxRecDepth 100000 in
theorem q_361 : (Cond.methodLink "FollowedHours" (151 : Nat) ({ cls := "FollowedHours$Garden", name := "underSet", desc := "(I)I" } : Jvm.MethodName)) ∈ fh_T := fh_Tin 361 (by decide +kernel) rfl
set_option maxRecDepth 100000 in
theorem q_362 : (Cond.instanceMethod ({ cls := "FollowedHours$Garden", name := "underSet", desc := "(I)I" } : Jvm.MethodName)) ∈ fh_T := fh_Tin 362 (by decide +kernel) rfl
set_option maxRecDepth 100000 in
theorem q_363 : (Cond.selects "FollowedHours$Garden" ({ cls := "FollowedHours$Garden", name := "underSet", desc := "(I)I" } : Jvm.MethodName) ({ cls := "FollowedHours$Garden", name := "underSet", desc := "(I)I" } : Jvm.MethodName)) ∈ fh_T := fh_Tin 363 (by decide +kernel) rfl
set_option maxRecDepth 100000 in
theorem q_364 : (Cond.code ({ cls := "FollowedHours$Garden", name := "underSet", desc := "(I)I" } : Jvm.MethodName) prog_2_method_31_code (4 : Nat) (Option.some Jvm.ClassFile.FieldType.int)) ∈ fh_T := fh_Tin 364 (by decide +kernel) rfl
set_option maxRecDepth 100000 in
theorem q_369 : (Cond.constant "FollowedHours" (154 : Nat) (-1000004 : Int32)) ∈ fh_T := fh_Tin 369 (by decide +kernel) rfl
set_option maxRecDepth 100000 in
theorem q_374 : (Cond.methodLink "FollowedHours" (155 : Nat) ({ cls := "FollowedHours", name := "tryTicks", desc := "(I)V" } : Jvm.MethodName)) ∈ fh_T := fh_Tin 374 (by decide +kernel) rfl
set_option maxRecDepth 100000 in
theorem q_376 : (Cond.instanceMethod ({ cls := "FollowedHours", name := "tryTicks", desc := "(I)V" } : Jvm.MethodName)) ∈ fh_T := fh_Tin 376 (by decide +kernel) rfl
set_option maxRecDepth 100000 in
theorem q_377 : (Cond.code ({ cls := "FollowedHours", name := "tryTicks", desc := "(I)V" } : Jvm.MethodName) prog_1_method_52_code (2 : Nat) (Option.none : Option Jvm.ClassFile.FieldType)) ∈ fh_T := fh_Tin 377 (by decide +kernel) rfl
set_option maxRecDepth 100000 in
theorem q_378 : (Cond.methodLink "FollowedHours" (161 : Nat) ({ cls := "FollowedHours$Garden", name := "become", desc := "(LFollowedHours$Garden;)V" } : Jvm.MethodName)) ∈ fh_T := fh_Tin 378 (by decide +kernel) rfl
set_option maxRecDepth 100000 in
theorem q_379 : (Cond.instanceMethod ({ cls := "FollowedHours$Garden", name := "become", desc := "(LFollowedHours$Garden;)V" } : Jvm.MethodName)) ∈ fh_T := fh_Tin 379 (by decide +kernel) rfl
set_option maxRecDepth 100000 in
theorem q_380 : (Cond.selects "FollowedHours$Garden" ({ cls := "FollowedHours$Garden", name := "become", desc := "(LFollowedHours$Garden;)V" } : Jvm.MethodName) ({ cls := "FollowedHours$Garden", name := "become", desc := "(LFollowedHours$Garden;)V" } : Jvm.MethodName)) ∈ fh_T := fh_Tin 380 (by decide +kernel) rfl
set_option maxRecDepth 100000 in
theorem q_381 : (Cond.code ({ cls := "FollowedHours$Garden", name := "become", desc := "(LFollowedHours$Garden;)V" } : Jvm.MethodName) prog_2_method_2_code (2 : Nat) (Option.none : Option Jvm.ClassFile.FieldType)) ∈ fh_T := fh_Tin 381 (by decide +kernel) rfl
set_option maxRecDepth 100000 in
theorem q_382 : (Cond.methodLink "FollowedHours$Garden" (49 : Nat) ({ cls := "java/lang/System", name := "arraycopy", desc := "(Ljava/lang/Object;ILjava/lang/Object;II)V" } : Jvm.MethodName)) ∈ fh_T := fh_Tin 382 (by decide +kernel) rfl
set_option maxRecDepth 100000 in
theorem q_383 : (Cond.static ({ cls := "java/lang/System", name := "arraycopy", desc := "(Ljava/lang/Object;ILjava/lang/Object;II)V" } : Jvm.MethodName)) ∈ fh_T := fh_Tin 383 (by decide +kernel) rfl
set_option maxRecDepth 100000 in
theorem q_384 : (Cond.native ({ cls := "java/lang/System", name := "arraycopy", desc := "(Ljava/lang/Object;ILjava/lang/Object;II)V" } : Jvm.MethodName)) ∈ fh_T := fh_Tin 384 (by decide +kernel) rfl
set_option maxRecDepth 100000 in
theorem q_393 : (Cond.methodLink "FollowedHours" (158 : Nat) ({ cls := "FollowedHours", name := "isHour", desc := "(I)Z" } : Jvm.MethodName)) ∈ fh_T := fh_Tin 393 (by decide +kernel) rfl
set_option maxRecDepth 100000 in
theorem q_394 : (Cond.methodLink "FollowedHours" (165 : Nat) ({ cls := "FollowedHours$Garden", name := "passTick", desc := "()V" } : Jvm.MethodName)) ∈ fh_T := fh_Tin 394 (by decide +kernel) rfl
set_option maxRecDepth 100000 in
theorem q_407 : (Cond.methodLink "FollowedHours" (168 : Nat) ({ cls := "FollowedHours$Garden", name := "markGoings", desc := "()V" } : Jvm.MethodName)) ∈ fh_T := fh_Tin 407 (by decide +kernel) rfl
set_option maxRecDepth 100000 in
theorem q_408 : (Cond.instanceMethod ({ cls := "FollowedHours$Garden", name := "markGoings", desc := "()V" } : Jvm.MethodName)) ∈ fh_T := fh_Tin 408 (by decide +kernel) rfl
set_option maxRecDepth 100000 in
theorem q_409 : (Cond.selects "FollowedHours$Garden" ({ cls := "FollowedHours$Garden", name := "markGoings", desc := "()V" } : Jvm.MethodName) ({ cls := "FollowedHours$Garden", name := "markGoings", desc := "()V" } : Jvm.MethodName)) ∈ fh_T := fh_Tin 409 (by decide +kernel) rfl
set_option maxRecDepth 100000 in
theorem q_410 : (Cond.code ({ cls := "FollowedHours$Garden", name := "markGoings", desc := "()V" } : Jvm.MethodName) prog_2_method_18_code (1 : Nat) (Option.none : Option Jvm.ClassFile.FieldType)) ∈ fh_T := fh_Tin 410 (by decide +kernel) rfl
set_option maxRecDepth 100000 in
theorem q_411 : (Cond.methodLink "FollowedHours" (171 : Nat) ({ cls := "FollowedHours$Garden", name := "goesAsMarked", desc := "()Z" } : Jvm.MethodName)) ∈ fh_T := fh_Tin 411 (by decide +kernel) rfl
set_option maxRecDepth 100000 in
theorem q_412 : (Cond.instanceMethod ({ cls := "FollowedHours$Garden", name := "goesAsMarked", desc := "()Z" } : Jvm.MethodName)) ∈ fh_T := fh_Tin 412 (by decide +kernel) rfl
set_option maxRecDepth 100000 in
theorem q_413 : (Cond.selects "FollowedHours$Garden" ({ cls := "FollowedHours$Garden", name := "goesAsMarked", desc := "()Z" } : Jvm.MethodName) ({ cls := "FollowedHours$Garden", name := "goesAsMarked", desc := "()Z" } : Jvm.MethodName)) ∈ fh_T := fh_Tin 413 (by decide +kernel) rfl
set_option maxRecDepth 100000 in
theorem q_414 : (Cond.code ({ cls := "FollowedHours$Garden", name := "goesAsMarked", desc := "()Z" } : Jvm.MethodName) prog_2_method_19_code (2 : Nat) (Option.some Jvm.ClassFile.FieldType.boolean)) ∈ fh_T := fh_Tin 414 (by decide +kernel) rfl
set_option maxRecDepth 100000 in
theorem q_419 : (Cond.methodLink "FollowedHours" (177 : Nat) ({ cls := "FollowedHours", name := "distanceAs", desc := "(III)I" } : Jvm.MethodName)) ∈ fh_T := fh_Tin 419 (by decide +kernel) rfl
set_option maxRecDepth 100000 in
theorem q_421 : (Cond.instanceMethod ({ cls := "FollowedHours", name := "distanceAs", desc := "(III)I" } : Jvm.MethodName)) ∈ fh_T := fh_Tin 421 (by decide +kernel) rfl
set_option maxRecDepth 100000 in
theorem q_422 : (Cond.code ({ cls := "FollowedHours", name := "distanceAs", desc := "(III)I" } : Jvm.MethodName) prog_1_method_53_code (6 : Nat) (Option.some Jvm.ClassFile.FieldType.int)) ∈ fh_T := fh_Tin 422 (by decide +kernel) rfl
set_option maxRecDepth 100000 in
theorem q_423 : (Cond.methodLink "FollowedHours" (269 : Nat) ({ cls := "java/lang/Math", name := "abs", desc := "(I)I" } : Jvm.MethodName)) ∈ fh_T := fh_Tin 423 (by decide +kernel) rfl
set_option maxRecDepth 100000 in
theorem q_428 : (Cond.methodLink "FollowedHours" (181 : Nat) ({ cls := "FollowedHours", name := "roundHour", desc := "(I)I" } : Jvm.MethodName)) ∈ fh_T := fh_Tin 428 (by decide +kernel) rfl
set_option maxRecDepth 100000 in
theorem q_433 : (Cond.methodLink "FollowedHours" (184 : Nat) ({ cls := "FollowedHours", name := "lowestOf", desc := "(I)I" } : Jvm.MethodName)) ∈ fh_T := fh_Tin 433 (by decide +kernel) rfl
set_option maxRecDepth 100000 in
theorem q_446 : (Cond.methodLink "FollowedHours" (187 : Nat) ({ cls := "FollowedHours", name := "findingOfSheet", desc := "(I)I" } : Jvm.MethodName)) ∈ fh_T := fh_Tin 446 (by decide +kernel) rfl
set_option maxRecDepth 100000 in
theorem q_448 : (Cond.instanceMethod ({ cls := "FollowedHours", name := "findingOfSheet", desc := "(I)I" } : Jvm.MethodName)) ∈ fh_T := fh_Tin 448 (by decide +kernel) rfl
set_option maxRecDepth 100000 in
theorem q_449 : (Cond.code ({ cls := "FollowedHours", name := "findingOfSheet", desc := "(I)I" } : Jvm.MethodName) prog_1_method_51_code (2 : Nat) (Option.some Jvm.ClassFile.FieldType.int)) ∈ fh_T := fh_Tin 449 (by decide +kernel) rfl
set_option maxRecDepth 100000 in
theorem q_450 : (Cond.methodLink "FollowedHours" (232 : Nat) ({ cls := "FollowedHours", name := "isSheet", desc := "(I)Z" } : Jvm.MethodName)) ∈ fh_T := fh_Tin 450 (by decide +kernel) rfl
set_option maxRecDepth 100000 in
theorem q_451 : (Cond.static ({ cls := "FollowedHours", name := "isSheet", desc := "(I)Z" } : Jvm.MethodName)) ∈ fh_T := fh_Tin 451 (by decide +kernel) rfl
set_option maxRecDepth 100000 in
theorem q_452 : (Cond.code ({ cls := "FollowedHours", name := "isSheet", desc := "(I)Z" } : Jvm.MethodName) prog_1_method_60_code (1 : Nat) (Option.some Jvm.ClassFile.FieldType.boolean)) ∈ fh_T := fh_Tin 452 (by decide +kernel) rfl
set_option maxRecDepth 100000 in
theorem q_453 : (Cond.methodLink "FollowedHours" (243 : Nat) ({ cls := "FollowedHours$Sheet", name := "isMissing", desc := "()Z" } : Jvm.MethodName)) ∈ fh_T := fh_Tin 453 (by decide +kernel) rfl
set_option maxRecDepth 100000 in
theorem q_454 : (Cond.instanceMethod ({ cls := "FollowedHours$Sheet", name := "isMissing", desc := "()Z" } : Jvm.MethodName)) ∈ fh_T := fh_Tin 454 (by decide +kernel) rfl
set_option maxRecDepth 100000 in
theorem q_455 : (Cond.selects "FollowedHours$Sheet" ({ cls := "FollowedHours$Sheet", name := "isMissing", desc := "()Z" } : Jvm.MethodName) ({ cls := "FollowedHours$Sheet", name := "isMissing", desc := "()Z" } : Jvm.MethodName)) ∈ fh_T := fh_Tin 455 (by decide +kernel) rfl
set_option maxRecDepth 100000 in
theorem q_456 : (Cond.code ({ cls := "FollowedHours$Sheet", name := "isMissing", desc := "()Z" } : Jvm.MethodName) prog_4_method_2_code (1 : Nat) (Option.some Jvm.ClassFile.FieldType.boolean)) ∈ fh_T := fh_Tin 456 (by decide +kernel) rfl
set_option maxRecDepth 100000 in
theorem q_457 : (Cond.constant "FollowedHours" (227 : Nat) (-1000006 : Int32)) ∈ fh_T := fh_Tin 457 (by decide +kernel) rfl
set_option maxRecDepth 100000 in
theorem q_458 : (Cond.methodLink "FollowedHours" (193 : Nat) ({ cls := "FollowedHours", name := "triedShowsAs", desc := "(LFollowedHours$Sheet;I)Z" } : Jvm.MethodName)) ∈ fh_T := fh_Tin 458 (by decide +kernel) rfl
set_option maxRecDepth 100000 in
theorem q_460 : (Cond.instanceMethod ({ cls := "FollowedHours", name := "triedShowsAs", desc := "(LFollowedHours$Sheet;I)Z" } : Jvm.MethodName)) ∈ fh_T := fh_Tin 460 (by decide +kernel) rfl
set_option maxRecDepth 100000 in
theorem q_461 : (Cond.code ({ cls := "FollowedHours", name := "triedShowsAs", desc := "(LFollowedHours$Sheet;I)Z" } : Jvm.MethodName) prog_1_method_54_code (5 : Nat) (Option.some Jvm.ClassFile.FieldType.boolean)) ∈ fh_T := fh_Tin 461 (by decide +kernel) rfl
set_option maxRecDepth 100000 in
theorem q_470 : (Cond.methodLink "FollowedHours" (200 : Nat) ({ cls := "FollowedHours", name := "hoursBetween", desc := "(II)I" } : Jvm.MethodName)) ∈ fh_T := fh_Tin 470 (by decide +kernel) rfl
set_option maxRecDepth 100000 in
theorem q_471 : (Cond.static ({ cls := "FollowedHours", name := "hoursBetween", desc := "(II)I" } : Jvm.MethodName)) ∈ fh_T := fh_Tin 471 (by decide +kernel) rfl
set_option maxRecDepth 100000 in
theorem q_472 : (Cond.code ({ cls := "FollowedHours", name := "hoursBetween", desc := "(II)I" } : Jvm.MethodName) prog_1_method_64_code (3 : Nat) (Option.some Jvm.ClassFile.FieldType.int)) ∈ fh_T := fh_Tin 472 (by decide +kernel) rfl
set_option maxRecDepth 100000 in
theorem q_473 : (Cond.methodLink "FollowedHours" (261 : Nat) ({ cls := "java/lang/Math", name := "min", desc := "(II)I" } : Jvm.MethodName)) ∈ fh_T := fh_Tin 473 (by decide +kernel) rfl
set_option maxRecDepth 100000 in
theorem q_478 : (Cond.methodLink "FollowedHours" (204 : Nat) ({ cls := "FollowedHours", name := "stillIfStopped", desc := "(II)I" } : Jvm.MethodName)) ∈ fh_T := fh_Tin 478 (by decide +kernel) rfl
set_option maxRecDepth 100000 in
theorem q_480 : (Cond.instanceMethod ({ cls := "FollowedHours", name := "stillIfStopped", desc := "(II)I" } : Jvm.MethodName)) ∈ fh_T := fh_Tin 480 (by decide +kernel) rfl
set_option maxRecDepth 100000 in
theorem q_481 : (Cond.code ({ cls := "FollowedHours", name := "stillIfStopped", desc := "(II)I" } : Jvm.MethodName) prog_1_method_55_code (4 : Nat) (Option.some Jvm.ClassFile.FieldType.int)) ∈ fh_T := fh_Tin 481 (by decide +kernel) rfl
set_option maxRecDepth 100000 in
theorem q_482 : (Cond.methodLink "FollowedHours" (272 : Nat) ({ cls := "FollowedHours", name := "isIn", desc := "(II)Z" } : Jvm.MethodName)) ∈ fh_T := fh_Tin 482 (by decide +kernel) rfl
set_option maxRecDepth 100000 in
theorem q_483 : (Cond.methodLink "FollowedHours" (275 : Nat) ({ cls := "FollowedHours$Garden", name := "passTicksForGoings", desc := "(I)V" } : Jvm.MethodName)) ∈ fh_T := fh_Tin 483 (by decide +kernel) rfl
set_option maxRecDepth 100000 in
theorem q_484 : (Cond.instanceMethod ({ cls := "FollowedHours$Garden", name := "passTicksForGoings", desc := "(I)V" } : Jvm.MethodName)) ∈ fh_T := fh_Tin 484 (by decide +kernel) rfl
set_option maxRecDepth 100000 in
theorem q_485 : (Cond.selects "FollowedHours$Garden" ({ cls := "FollowedHours$Garden", name := "passTicksForGoings", desc := "(I)V" } : Jvm.MethodName) ({ cls := "FollowedHours$Garden", name := "passTicksForGoings", desc := "(I)V" } : Jvm.MethodName)) ∈ fh_T := fh_Tin 485 (by decide +kernel) rfl
set_option maxRecDepth 100000 in
theorem q_486 : (Cond.code ({ cls := "FollowedHours$Garden", name := "passTicksForGoings", desc := "(I)V" } : Jvm.MethodName) prog_2_method_17_code (4 : Nat) (Option.none : Option Jvm.ClassFile.FieldType)) ∈ fh_T := fh_Tin 486 (by decide +kernel) rfl
set_option maxRecDepth 100000 in
theorem q_487 : (Cond.methodLink "FollowedHours$Garden" (103 : Nat) ({ cls := "FollowedHours$Garden", name := "markGoings", desc := "()V" } : Jvm.MethodName)) ∈ fh_T := fh_Tin 487 (by decide +kernel) rfl
set_option maxRecDepth 100000 in
theorem q_488 : (Cond.methodLink "FollowedHours$Garden" (106 : Nat) ({ cls := "FollowedHours$Garden", name := "goesAsMarked", desc := "()Z" } : Jvm.MethodName)) ∈ fh_T := fh_Tin 488 (by decide +kernel) rfl
set_option maxRecDepth 100000 in
theorem q_501 : (Cond.methodLink "FollowedHours" (207 : Nat) ({ cls := "FollowedHours$Garden", name := "draw", desc := "()I" } : Jvm.MethodName)) ∈ fh_T := fh_Tin 501 (by decide +kernel) rfl
set_option maxRecDepth 100000 in
theorem q_502 : (Cond.instanceMethod ({ cls := "FollowedHours$Garden", name := "draw", desc := "()I" } : Jvm.MethodName)) ∈ fh_T := fh_Tin 502 (by decide +kernel) rfl
set_option maxRecDepth 100000 in
theorem q_503 : (Cond.selects "FollowedHours$Garden" ({ cls := "FollowedHours$Garden", name := "draw", desc := "()I" } : Jvm.MethodName) ({ cls := "FollowedHours$Garden", name := "draw", desc := "()I" } : Jvm.MethodName)) ∈ fh_T := fh_Tin 503 (by decide +kernel) rfl
set_option maxRecDepth 100000 in
theorem q_504 : (Cond.code ({ cls := "FollowedHours$Garden", name := "draw", desc := "()I" } : Jvm.MethodName) prog_2_method_11_code (1 : Nat) (Option.some Jvm.ClassFile.FieldType.int)) ∈ fh_T := fh_Tin 504 (by decide +kernel) rfl
set_option maxRecDepth 100000 in
theorem q_505 : (Cond.constant "FollowedHours$Garden" (79 : Nat) (1103515245 : Int32)) ∈ fh_T := fh_Tin 505 (by decide +kernel) rfl
set_option maxRecDepth 100000 in
theorem q_518 : (Cond.methodLink "FollowedHours" (214 : Nat) ({ cls := "FollowedHours$Tape", name := "append", desc := "(I)V" } : Jvm.MethodName)) ∈ fh_T := fh_Tin 518 (by decide +kernel) rfl
set_option maxRecDepth 100000 in
theorem q_519 : (Cond.instanceMethod ({ cls := "FollowedHours$Tape", name := "append", desc := "(I)V" } : Jvm.MethodName)) ∈ fh_T := fh_Tin 519 (by decide +kernel) rfl
set_option maxRecDepth 100000 in
theorem q_520 : (Cond.selects "FollowedHours$Tape" ({ cls := "FollowedHours$Tape", name := "append", desc := "(I)V" } : Jvm.MethodName) ({ cls := "FollowedHours$Tape", name := "append", desc := "(I)V" } : Jvm.MethodName)) ∈ fh_T := fh_Tin 520 (by decide +kernel) rfl
set_option maxRecDepth 100000 in
theorem q_521 : (Cond.code ({ cls := "FollowedHours$Tape", name := "append", desc := "(I)V" } : Jvm.MethodName) prog_5_method_2_code (2 : Nat) (Option.none : Option Jvm.ClassFile.FieldType)) ∈ fh_T := fh_Tin 521 (by decide +kernel) rfl
set_option maxRecDepth 100000 in
theorem q_530 : (Cond.methodLink "FollowedHours" (217 : Nat) ({ cls := "FollowedHours$Reader", name := "readInto", desc := "(LFollowedHours$Garden;)I" } : Jvm.MethodName)) ∈ fh_T := fh_Tin 530 (by decide +kernel) rfl
set_option maxRecDepth 100000 in
theorem q_531 : (Cond.instanceMethod ({ cls := "FollowedHours$Reader", name := "readInto", desc := "(LFollowedHours$Garden;)I" } : Jvm.MethodName)) ∈ fh_T := fh_Tin 531 (by decide +kernel) rfl
set_option maxRecDepth 100000 in
theorem q_532 : (Cond.selects "FollowedHours$Reader" ({ cls := "FollowedHours$Reader", name := "readInto", desc := "(LFollowedHours$Garden;)I" } : Jvm.MethodName) ({ cls := "FollowedHours$Reader", name := "readInto", desc := "(LFollowedHours$Garden;)I" } : Jvm.MethodName)) ∈ fh_T := fh_Tin 532 (by decide +kernel) rfl
set_option maxRecDepth 100000 in
theorem q_533 : (Cond.code ({ cls := "FollowedHours$Reader", name := "readInto", desc := "(LFollowedHours$Garden;)I" } : Jvm.MethodName) prog_3_method_2_code (4 : Nat) (Option.some Jvm.ClassFile.FieldType.int)) ∈ fh_T := fh_Tin 533 (by decide +kernel) rfl
set_option maxRecDepth 100000 in
theorem q_534 : (Cond.methodLink "FollowedHours$Reader" (22 : Nat) ({ cls := "FollowedHours$Reader", name := "findToken", desc := "()V" } : Jvm.MethodName)) ∈ fh_T := fh_Tin 534 (by decide +kernel) rfl
set_option maxRecDepth 100000 in
theorem q_536 : (Cond.instanceMethod ({ cls := "FollowedHours$Reader", name := "findToken", desc := "()V" } : Jvm.MethodName)) ∈ fh_T := fh_Tin 536 (by decide +kernel) rfl
set_option maxRecDepth 100000 in
theorem q_537 : (Cond.code ({ cls := "FollowedHours$Reader", name := "findToken", desc := "()V" } : Jvm.MethodName) prog_3_method_12_code (2 : Nat) (Option.none : Option Jvm.ClassFile.FieldType)) ∈ fh_T := fh_Tin 537 (by decide +kernel) rfl
set_option maxRecDepth 100000 in
theorem q_538 : (Cond.methodLink "FollowedHours$Reader" (101 : Nat) ({ cls := "FollowedHours$Tape", name := "byteAt", desc := "(I)I" } : Jvm.MethodName)) ∈ fh_T := fh_Tin 538 (by decide +kernel) rfl
set_option maxRecDepth 100000 in
theorem q_539 : (Cond.instanceMethod ({ cls := "FollowedHours$Tape", name := "byteAt", desc := "(I)I" } : Jvm.MethodName)) ∈ fh_T := fh_Tin 539 (by decide +kernel) rfl
set_option maxRecDepth 100000 in
theorem q_540 : (Cond.selects "FollowedHours$Tape" ({ cls := "FollowedHours$Tape", name := "byteAt", desc := "(I)I" } : Jvm.MethodName) ({ cls := "FollowedHours$Tape", name := "byteAt", desc := "(I)I" } : Jvm.MethodName)) ∈ fh_T := fh_Tin 540 (by decide +kernel) rfl
set_option maxRecDepth 100000 in
theorem q_541 : (Cond.code ({ cls := "FollowedHours$Tape", name := "byteAt", desc := "(I)I" } : Jvm.MethodName) prog_5_method_3_code (2 : Nat) (Option.some Jvm.ClassFile.FieldType.int)) ∈ fh_T := fh_Tin 541 (by decide +kernel) rfl
set_option maxRecDepth 100000 in
theorem q_542 : (Cond.methodLink "FollowedHours$Reader" (139 : Nat) ({ cls := "FollowedHours$Reader", name := "isLetter", desc := "(I)Z" } : Jvm.MethodName)) ∈ fh_T := fh_Tin 542 (by decide +kernel) rfl
set_option maxRecDepth 100000 in
theorem q_543 : (Cond.static ({ cls := "FollowedHours$Reader", name := "isLetter", desc := "(I)Z" } : Jvm.MethodName)) ∈ fh_T := fh_Tin 543 (by decide +kernel) rfl
set_option maxRecDepth 100000 in
theorem q_544 : (Cond.code ({ cls := "FollowedHours$Reader", name := "isLetter", desc := "(I)Z" } : Jvm.MethodName) prog_3_method_15_code (1 : Nat) (Option.some Jvm.ClassFile.FieldType.boolean)) ∈ fh_T := fh_Tin 544 (by decide +kernel) rfl
set_option maxRecDepth 100000 in
theorem q_545 : (Cond.methodLink "FollowedHours$Reader" (142 : Nat) ({ cls := "FollowedHours$Reader", name := "readLetters", desc := "()V" } : Jvm.MethodName)) ∈ fh_T := fh_Tin 545 (by decide +kernel) rfl
set_option maxRecDepth 100000 in
theorem q_547 : (Cond.instanceMethod ({ cls := "FollowedHours$Reader", name := "readLetters", desc := "()V" } : Jvm.MethodName)) ∈ fh_T := fh_Tin 547 (by decide +kernel) rfl
set_option maxRecDepth 100000 in
theorem q_548 : (Cond.code ({ cls := "FollowedHours$Reader", name := "readLetters", desc := "()V" } : Jvm.MethodName) prog_3_method_13_code (1 : Nat) (Option.none : Option Jvm.ClassFile.FieldType)) ∈ fh_T := fh_Tin 548 (by decide +kernel) rfl
set_option maxRecDepth 100000 in
theorem q_549 : (Cond.methodLink "FollowedHours$Reader" (145 : Nat) ({ cls := "FollowedHours$Reader", name := "isDigit", desc := "(I)Z" } : Jvm.MethodName)) ∈ fh_T := fh_Tin 549 (by decide +kernel) rfl
set_option maxRecDepth 100000 in
theorem q_550 : (Cond.static ({ cls := "FollowedHours$Reader", name := "isDigit", desc := "(I)Z" } : Jvm.MethodName)) ∈ fh_T := fh_Tin 550 (by decide +kernel) rfl
set_option maxRecDepth 100000 in
theorem q_551 : (Cond.code ({ cls := "FollowedHours$Reader", name := "isDigit", desc := "(I)Z" } : Jvm.MethodName) prog_3_method_16_code (1 : Nat) (Option.some Jvm.ClassFile.FieldType.boolean)) ∈ fh_T := fh_Tin 551 (by decide +kernel) rfl
set_option maxRecDepth 100000 in
theorem q_552 : (Cond.methodLink "FollowedHours$Reader" (148 : Nat) ({ cls := "FollowedHours$Reader", name := "readDigits", desc := "()V" } : Jvm.MethodName)) ∈ fh_T := fh_Tin 552 (by decide +kernel) rfl
set_option maxRecDepth 100000 in
theorem q_554 : (Cond.instanceMethod ({ cls := "FollowedHours$Reader", name := "readDigits", desc := "()V" } : Jvm.MethodName)) ∈ fh_T := fh_Tin 554 (by decide +kernel) rfl
set_option maxRecDepth 100000 in
theorem q_555 : (Cond.code ({ cls := "FollowedHours$Reader", name := "readDigits", desc := "()V" } : Jvm.MethodName) prog_3_method_14_code (1 : Nat) (Option.none : Option Jvm.ClassFile.FieldType)) ∈ fh_T := fh_Tin 555 (by decide +kernel) rfl
set_option maxRecDepth 100000 in
theorem q_556 : (Cond.methodLink "FollowedHours$Reader" (151 : Nat) ({ cls := "java/lang/Math", name := "min", desc := "(II)I" } : Jvm.MethodName)) ∈ fh_T := fh_Tin 556 (by decide +kernel) rfl
set_option maxRecDepth 100000 in
theorem q_558 : (Cond.methodLink "FollowedHours$Reader" (27 : Nat) ({ cls := "FollowedHours$Reader", name := "takeWord", desc := "(Ljava/lang/String;)Z" } : Jvm.MethodName)) ∈ fh_T := fh_Tin 558 (by decide +kernel) rfl
set_option maxRecDepth 100000 in
theorem q_560 : (Cond.instanceMethod ({ cls := "FollowedHours$Reader", name := "takeWord", desc := "(Ljava/lang/String;)Z" } : Jvm.MethodName)) ∈ fh_T := fh_Tin 560 (by decide +kernel) rfl
set_option maxRecDepth 100000 in
theorem q_561 : (Cond.code ({ cls := "FollowedHours$Reader", name := "takeWord", desc := "(Ljava/lang/String;)Z" } : Jvm.MethodName) prog_3_method_6_code (2 : Nat) (Option.some Jvm.ClassFile.FieldType.boolean)) ∈ fh_T := fh_Tin 561 (by decide +kernel) rfl
set_option maxRecDepth 100000 in
theorem q_562 : (Cond.methodLink "FollowedHours$Reader" (98 : Nat) ({ cls := "FollowedHours$Reader", name := "isWord", desc := "(Ljava/lang/String;)Z" } : Jvm.MethodName)) ∈ fh_T := fh_Tin 562 (by decide +kernel) rfl
set_option maxRecDepth 100000 in
theorem q_564 : (Cond.instanceMethod ({ cls := "FollowedHours$Reader", name := "isWord", desc := "(Ljava/lang/String;)Z" } : Jvm.MethodName)) ∈ fh_T := fh_Tin 564 (by decide +kernel) rfl
set_option maxRecDepth 100000 in
theorem q_565 : (Cond.code ({ cls := "FollowedHours$Reader", name := "isWord", desc := "(Ljava/lang/String;)Z" } : Jvm.MethodName) prog_3_method_9_code (3 : Nat) (Option.some Jvm.ClassFile.FieldType.boolean)) ∈ fh_T := fh_Tin 565 (by decide +kernel) rfl
set_option maxRecDepth 100000 in
theorem q_566 : (Cond.methodLink "FollowedHours$Reader" (109 : Nat) ({ cls := "java/lang/String", name := "length", desc := "()I" } : Jvm.MethodName)) ∈ fh_T := fh_Tin 566 (by decide +kernel) rfl
set_option maxRecDepth 100000 in
theorem q_567 : (Cond.instanceMethod ({ cls := "java/lang/String", name := "length", desc := "()I" } : Jvm.MethodName)) ∈ fh_T := fh_Tin 567 (by decide +kernel) rfl
set_option maxRecDepth 100000 in
theorem q_568 : (Cond.selects "java/lang/String" ({ cls := "java/lang/String", name := "length", desc := "()I" } : Jvm.MethodName) ({ cls := "java/lang/String", name := "length", desc := "()I" } : Jvm.MethodName)) ∈ fh_T := fh_Tin 568 (by decide +kernel) rfl
set_option maxRecDepth 100000 in
theorem q_569 : (Cond.code ({ cls := "java/lang/String", name := "length", desc := "()I" } : Jvm.MethodName) prog_10_method_54_code (1 : Nat) (Option.some Jvm.ClassFile.FieldType.int)) ∈ fh_T := fh_Tin 569 (by decide +kernel) rfl
set_option maxRecDepth 100000 in
theorem q_570 : (Cond.methodLink "java/lang/String" (335 : Nat) ({ cls := "java/lang/String", name := "coder", desc := "()B" } : Jvm.MethodName)) ∈ fh_T := fh_Tin 570 (by decide +kernel) rfl
set_option maxRecDepth 100000 in
theorem q_571 : (Cond.instanceMethod ({ cls := "java/lang/String", name := "coder", desc := "()B" } : Jvm.MethodName)) ∈ fh_T := fh_Tin 571 (by decide +kernel) rfl
set_option maxRecDepth 100000 in
theorem q_572 : (Cond.selects "java/lang/String" ({ cls := "java/lang/String", name := "coder", desc := "()B" } : Jvm.MethodName) ({ cls := "java/lang/String", name := "coder", desc := "()B" } : Jvm.MethodName)) ∈ fh_T := fh_Tin 572 (by decide +kernel) rfl
set_option maxRecDepth 100000 in
theorem q_573 : (Cond.code ({ cls := "java/lang/String", name := "coder", desc := "()B" } : Jvm.MethodName) prog_10_method_152_code (1 : Nat) (Option.some Jvm.ClassFile.FieldType.byte)) ∈ fh_T := fh_Tin 573 (by decide +kernel) rfl
set_option maxRecDepth 100000 in
theorem q_574 : (Cond.fieldLink "java/lang/String" (38 : Nat) "java/lang/String" "COMPACT_STRINGS" "Z") ∈ fh_T := fh_Tin 574 (by decide +kernel) rfl
set_option maxRecDepth 100000 in
theorem q_576 : (Cond.methodLink "FollowedHours$Reader" (114 : Nat) ({ cls := "java/lang/String", name := "charAt", desc := "(I)C" } : Jvm.MethodName)) ∈ fh_T := fh_Tin 576 (by decide +kernel) rfl
set_option maxRecDepth 100000 in
theorem q_577 : (Cond.instanceMethod ({ cls := "java/lang/String", name := "charAt", desc := "(I)C" } : Jvm.MethodName)) ∈ fh_T := fh_Tin 577 (by decide +kernel) rfl
set_option maxRecDepth 100000 in
theorem q_578 : (Cond.selects "java/lang/String" ({ cls := "java/lang/String", name := "charAt", desc := "(I)C" } : Jvm.MethodName) ({ cls := "java/lang/String", name := "charAt", desc := "(I)C" } : Jvm.MethodName)) ∈ fh_T := fh_Tin 578 (by decide +kernel) rfl
set_option maxRecDepth 100000 in
theorem q_579 : (Cond.code ({ cls := "java/lang/String", name := "charAt", desc := "(I)C" } : Jvm.MethodName) prog_10_method_56_code (2 : Nat) (Option.some Jvm.ClassFile.FieldType.char)) ∈ fh_T := fh_Tin 579 (by decide +kernel) rfl
set_option maxRecDepth 100000 in
theorem q_580 : (Cond.methodLink "java/lang/String" (492 : Nat) ({ cls := "java/lang/String", name := "isLatin1", desc := "()Z" } : Jvm.MethodName)) ∈ fh_T := fh_Tin 580 (by decide +kernel) rfl
set_option maxRecDepth 100000 in
theorem q_581 : (Cond.instanceMethod ({ cls := "java/lang/String", name := "isLatin1", desc := "()Z" } : Jvm.MethodName)) ∈ fh_T := fh_Tin 581 (by decide +kernel) rfl
set_option maxRecDepth 100000 in
theorem q_582 : (Cond.selects "java/lang/String" ({ cls := "java/lang/String", name := "isLatin1", desc := "()Z" } : Jvm.MethodName) ({ cls := "java/lang/String", name := "isLatin1", desc := "()Z" } : Jvm.MethodName)) ∈ fh_T := fh_Tin 582 (by decide +kernel) rfl
set_option maxRecDepth 100000 in
theorem q_583 : (Cond.code ({ cls := "java/lang/String", name := "isLatin1", desc := "()Z" } : Jvm.MethodName) prog_10_method_154_code (1 : Nat) (Option.some Jvm.ClassFile.FieldType.boolean)) ∈ fh_T := fh_Tin 583 (by decide +kernel) rfl
set_option maxRecDepth 100000 in
theorem q_584 : (Cond.methodLink "java/lang/String" (495 : Nat) ({ cls := "java/lang/StringLatin1", name := "charAt", desc := "([BI)C" } : Jvm.MethodName)) ∈ fh_T := fh_Tin 584 (by decide +kernel) rfl
set_option maxRecDepth 100000 in
theorem q_585 : (Cond.static ({ cls := "java/lang/StringLatin1", name := "charAt", desc := "([BI)C" } : Jvm.MethodName)) ∈ fh_T := fh_Tin 585 (by decide +kernel) rfl
set_option maxRecDepth 100000 in
theorem q_586 : (Cond.code ({ cls := "java/lang/StringLatin1", name := "charAt", desc := "([BI)C" } : Jvm.MethodName) prog_11_method_2_code (2 : Nat) (Option.some Jvm.ClassFile.FieldType.char)) ∈ fh_T := fh_Tin 586 (by decide +kernel) rfl
set_option maxRecDepth 100000 in
theorem q_587 : (Cond.methodLink "java/lang/StringLatin1" (9 : Nat) ({ cls := "java/lang/String", name := "checkIndex", desc := "(II)V" } : Jvm.MethodName)) ∈ fh_T := fh_Tin 587 (by decide +kernel) rfl
set_option maxRecDepth 100000 in
theorem q_588 : (Cond.static ({ cls := "java/lang/String", name := "checkIndex", desc := "(II)V" } : Jvm.MethodName)) ∈ fh_T := fh_Tin 588 (by decide +kernel) rfl
set_option maxRecDepth 100000 in
theorem q_589 : (Cond.code ({ cls := "java/lang/String", name := "checkIndex", desc := "(II)V" } : Jvm.MethodName) prog_10_method_155_code (2 : Nat) (Option.none : Option Jvm.ClassFile.FieldType)) ∈ fh_T := fh_Tin 589 (by decide +kernel) rfl
set_option maxRecDepth 100000 in
theorem q_590 : (Cond.fieldLink "java/lang/String" (1053 : Nat) "jdk/internal/util/Preconditions" "SIOOBE_FORMATTER" "Ljava/util/function/BiFunction;") ∈ fh_T := fh_Tin 590 (by decide +kernel) rfl
set_option maxRecDepth 100000 in
theorem q_592 : (Cond.methodLink "java/lang/String" (1059 : Nat) ({ cls := "jdk/internal/util/Preconditions", name := "checkIndex", desc := "(IILjava/util/function/BiFunction;)I" } : Jvm.MethodName)) ∈ fh_T := fh_Tin 592 (by decide +kernel) rfl
set_option maxRecDepth 100000 in
theorem q_593 : (Cond.static ({ cls := "jdk/internal/util/Preconditions", name := "checkIndex", desc := "(IILjava/util/function/BiFunction;)I" } : Jvm.MethodName)) ∈ fh_T := fh_Tin 593 (by decide +kernel) rfl
set_option maxRecDepth 100000 in
theorem q_594 : (Cond.code ({ cls := "jdk/internal/util/Preconditions", name := "checkIndex", desc := "(IILjava/util/function/BiFunction;)I" } : Jvm.MethodName) prog_14_method_11_code (3 : Nat) (Option.some Jvm.ClassFile.FieldType.int)) ∈ fh_T := fh_Tin 594 (by decide +kernel) rfl
set_option maxRecDepth 100000 in
theorem q_614 : (Cond.methodLink "FollowedHours$Reader" (31 : Nat) ({ cls := "FollowedHours$Reader", name := "readMaster", desc := "(LFollowedHours$Garden;)V" } : Jvm.MethodName)) ∈ fh_T := fh_Tin 614 (by decide +kernel) rfl
set_option maxRecDepth 100000 in
theorem q_616 : (Cond.instanceMethod ({ cls := "FollowedHours$Reader", name := "readMaster", desc := "(LFollowedHours$Garden;)V" } : Jvm.MethodName)) ∈ fh_T := fh_Tin 616 (by decide +kernel) rfl
set_option maxRecDepth 100000 in
theorem q_617 : (Cond.code ({ cls := "FollowedHours$Reader", name := "readMaster", desc := "(LFollowedHours$Garden;)V" } : Jvm.MethodName) prog_3_method_3_code (4 : Nat) (Option.none : Option Jvm.ClassFile.FieldType)) ∈ fh_T := fh_Tin 617 (by decide +kernel) rfl
set_option maxRecDepth 100000 in
theorem q_618 : (Cond.methodLink "FollowedHours$Reader" (53 : Nat) ({ cls := "FollowedHours$Reader", name := "takeNumber", desc := "(I)I" } : Jvm.MethodName)) ∈ fh_T := fh_Tin 618 (by decide +kernel) rfl
set_option maxRecDepth 100000 in
theorem q_620 : (Cond.instanceMethod ({ cls := "FollowedHours$Reader", name := "takeNumber", desc := "(I)I" } : Jvm.MethodName)) ∈ fh_T := fh_Tin 620 (by decide +kernel) rfl
set_option maxRecDepth 100000 in
theorem q_621 : (Cond.code ({ cls := "FollowedHours$Reader", name := "takeNumber", desc := "(I)I" } : Jvm.MethodName) prog_3_method_8_code (3 : Nat) (Option.some Jvm.ClassFile.FieldType.int)) ∈ fh_T := fh_Tin 621 (by decide +kernel) rfl
set_option maxRecDepth 100000 in
theorem q_622 : (Cond.methodLink "FollowedHours$Reader" (45 : Nat) ({ cls := "FollowedHours$Reader", name := "refuse", desc := "()V" } : Jvm.MethodName)) ∈ fh_T := fh_Tin 622 (by decide +kernel) rfl
set_option maxRecDepth 100000 in
theorem q_624 : (Cond.instanceMethod ({ cls := "FollowedHours$Reader", name := "refuse", desc := "()V" } : Jvm.MethodName)) ∈ fh_T := fh_Tin 624 (by decide +kernel) rfl
set_option maxRecDepth 100000 in
theorem q_625 : (Cond.code ({ cls := "FollowedHours$Reader", name := "refuse", desc := "()V" } : Jvm.MethodName) prog_3_method_5_code (1 : Nat) (Option.none : Option Jvm.ClassFile.FieldType)) ∈ fh_T := fh_Tin 625 (by decide +kernel) rfl
set_option maxRecDepth 100000 in
theorem q_626 : (Cond.methodLink "FollowedHours$Reader" (35 : Nat) ({ cls := "FollowedHours$Reader", name := "readDial", desc := "(LFollowedHours$Garden;)V" } : Jvm.MethodName)) ∈ fh_T := fh_Tin 626 (by decide +kernel) rfl
set_option maxRecDepth 100000 in
theorem q_628 : (Cond.instanceMethod ({ cls := "FollowedHours$Reader", name := "readDial", desc := "(LFollowedHours$Garden;)V" } : Jvm.MethodName)) ∈ fh_T := fh_Tin 628 (by decide +kernel) rfl
set_option maxRecDepth 100000 in
theorem q_629 : (Cond.code ({ cls := "FollowedHours$Reader", name := "readDial", desc := "(LFollowedHours$Garden;)V" } : Jvm.MethodName) prog_3_method_4_code (5 : Nat) (Option.none : Option Jvm.ClassFile.FieldType)) ∈ fh_T := fh_Tin 629 (by decide +kernel) rfl
set_option maxRecDepth 100000 in
theorem q_630 : (Cond.methodLink "FollowedHours$Reader" (61 : Nat) ({ cls := "FollowedHours$Reader", name := "kindOfWord", desc := "()I" } : Jvm.MethodName)) ∈ fh_T := fh_Tin 630 (by decide +kernel) rfl
set_option maxRecDepth 100000 in
theorem q_632 : (Cond.instanceMethod ({ cls := "FollowedHours$Reader", name := "kindOfWord", desc := "()I" } : Jvm.MethodName)) ∈ fh_T := fh_Tin 632 (by decide +kernel) rfl
set_option maxRecDepth 100000 in
theorem q_633 : (Cond.code ({ cls := "FollowedHours$Reader", name := "kindOfWord", desc := "()I" } : Jvm.MethodName) prog_3_method_10_code (2 : Nat) (Option.some Jvm.ClassFile.FieldType.int)) ∈ fh_T := fh_Tin 633 (by decide +kernel) rfl
set_option maxRecDepth 100000 in
theorem q_635 : (Cond.methodLink "FollowedHours$Reader" (121 : Nat) ({ cls := "FollowedHours$Reader", name := "wordOfKind", desc := "(I)Ljava/lang/String;" } : Jvm.MethodName)) ∈ fh_T := fh_Tin 635 (by decide +kernel) rfl
set_option maxRecDepth 100000 in
theorem q_636 : (Cond.static ({ cls := "FollowedHours$Reader", name := "wordOfKind", desc := "(I)Ljava/lang/String;" } : Jvm.MethodName)) ∈ fh_T := fh_Tin 636 (by decide +kernel) rfl
set_option maxRecDepth 100000 in
theorem q_637 : (Cond.code ({ cls := "FollowedHours$Reader", name := "wordOfKind", desc := "(I)Ljava/lang/String;" } : Jvm.MethodName) prog_3_method_11_code (1 : Nat) (Option.some (Jvm.ClassFile.FieldType.object "java/lang/String"))) ∈ fh_T := fh_Tin 637 (by decide +kernel) rfl
set_option maxRecDepth 100000 in
theorem q_645 : (Cond.methodLink "FollowedHours$Reader" (65 : Nat) ({ cls := "FollowedHours$Garden", name := "isFull", desc := "()Z" } : Jvm.MethodName)) ∈ fh_T := fh_Tin 645 (by decide +kernel) rfl
set_option maxRecDepth 100000 in
theorem q_646 : (Cond.methodLink "FollowedHours$Reader" (69 : Nat) ({ cls := "FollowedHours$Garden", name := "add", desc := "(I)I" } : Jvm.MethodName)) ∈ fh_T := fh_Tin 646 (by decide +kernel) rfl
set_option maxRecDepth 100000 in
theorem q_650 : (Cond.methodLink "FollowedHours$Reader" (38 : Nat) ({ cls := "FollowedHours$Reader", name := "takeSign", desc := "(C)Z" } : Jvm.MethodName)) ∈ fh_T := fh_Tin 650 (by decide +kernel) rfl
set_option maxRecDepth 100000 in
theorem q_652 : (Cond.instanceMethod ({ cls := "FollowedHours$Reader", name := "takeSign", desc := "(C)Z" } : Jvm.MethodName)) ∈ fh_T := fh_Tin 652 (by decide +kernel) rfl
set_option maxRecDepth 100000 in
theorem q_653 : (Cond.code ({ cls := "FollowedHours$Reader", name := "takeSign", desc := "(C)Z" } : Jvm.MethodName) prog_3_method_7_code (2 : Nat) (Option.some Jvm.ClassFile.FieldType.boolean)) ∈ fh_T := fh_Tin 653 (by decide +kernel) rfl
set_option maxRecDepth 100000 in
theorem q_656 : (Cond.methodLink "FollowedHours$Reader" (91 : Nat) ({ cls := "FollowedHours$Garden", name := "freeze", desc := "(I)Z" } : Jvm.MethodName)) ∈ fh_T := fh_Tin 656 (by decide +kernel) rfl
set_option maxRecDepth 100000 in
theorem q_662 : (Cond.methodLink "FollowedHours" (221 : Nat) ({ cls := "FollowedHours", name := "isSpot", desc := "(I)Z" } : Jvm.MethodName)) ∈ fh_T := fh_Tin 662 (by decide +kernel) rfl
set_option maxRecDepth 100000 in
theorem q_663 : (Cond.static ({ cls := "FollowedHours", name := "isSpot", desc := "(I)Z" } : Jvm.MethodName)) ∈ fh_T := fh_Tin 663 (by decide +kernel) rfl
set_option maxRecDepth 100000 in
theorem q_664 : (Cond.code ({ cls := "FollowedHours", name := "isSpot", desc := "(I)Z" } : Jvm.MethodName) prog_1_method_59_code (1 : Nat) (Option.some Jvm.ClassFile.FieldType.boolean)) ∈ fh_T := fh_Tin 664 (by decide +kernel) rfl
set_option maxRecDepth 100000 in
theorem q_669 : (Cond.methodLink "FollowedHours" (228 : Nat) ({ cls := "FollowedHours", name := "isOfKind", desc := "(II)Z" } : Jvm.MethodName)) ∈ fh_T := fh_Tin 669 (by decide +kernel) rfl
set_option maxRecDepth 100000 in
theorem q_670 : (Cond.static ({ cls := "FollowedHours", name := "isOfKind", desc := "(II)Z" } : Jvm.MethodName)) ∈ fh_T := fh_Tin 670 (by decide +kernel) rfl
set_option maxRecDepth 100000 in
theorem q_671 : (Cond.code ({ cls := "FollowedHours", name := "isOfKind", desc := "(II)Z" } : Jvm.MethodName) prog_1_method_65_code (4 : Nat) (Option.some Jvm.ClassFile.FieldType.boolean)) ∈ fh_T := fh_Tin 671 (by decide +kernel) rfl
set_option maxRecDepth 100000 in
theorem q_672 : (Cond.constant "FollowedHours" (231 : Nat) (-1000003 : Int32)) ∈ fh_T := fh_Tin 672 (by decide +kernel) rfl
set_option maxRecDepth 100000 in
theorem q_677 : (Cond.constant "FollowedHours" (235 : Nat) (-1000007 : Int32)) ∈ fh_T := fh_Tin 677 (by decide +kernel) rfl
set_option maxRecDepth 100000 in
theorem q_678 : (Cond.methodLink "FollowedHours" (236 : Nat) ({ cls := "FollowedHours$Sheet", name := "layOut", desc := "(II)V" } : Jvm.MethodName)) ∈ fh_T := fh_Tin 678 (by decide +kernel) rfl
set_option maxRecDepth 100000 in
theorem q_679 : (Cond.instanceMethod ({ cls := "FollowedHours$Sheet", name := "layOut", desc := "(II)V" } : Jvm.MethodName)) ∈ fh_T := fh_Tin 679 (by decide +kernel) rfl
set_option maxRecDepth 100000 in
theorem q_680 : (Cond.selects "FollowedHours$Sheet" ({ cls := "FollowedHours$Sheet", name := "layOut", desc := "(II)V" } : Jvm.MethodName) ({ cls := "FollowedHours$Sheet", name := "layOut", desc := "(II)V" } : Jvm.MethodName)) ∈ fh_T := fh_Tin 680 (by decide +kernel) rfl
set_option maxRecDepth 100000 in
theorem q_681 : (Cond.code ({ cls := "FollowedHours$Sheet", name := "layOut", desc := "(II)V" } : Jvm.MethodName) prog_4_method_3_code (4 : Nat) (Option.none : Option Jvm.ClassFile.FieldType)) ∈ fh_T := fh_Tin 681 (by decide +kernel) rfl
set_option maxRecDepth 100000 in
theorem q_686 : (Cond.methodLink "FollowedHours" (240 : Nat) ({ cls := "FollowedHours$Sheet", name := "put", desc := "(II)V" } : Jvm.MethodName)) ∈ fh_T := fh_Tin 686 (by decide +kernel) rfl
set_option maxRecDepth 100000 in
theorem q_687 : (Cond.instanceMethod ({ cls := "FollowedHours$Sheet", name := "put", desc := "(II)V" } : Jvm.MethodName)) ∈ fh_T := fh_Tin 687 (by decide +kernel) rfl
set_option maxRecDepth 100000 in
theorem q_688 : (Cond.selects "FollowedHours$Sheet" ({ cls := "FollowedHours$Sheet", name := "put", desc := "(II)V" } : Jvm.MethodName) ({ cls := "FollowedHours$Sheet", name := "put", desc := "(II)V" } : Jvm.MethodName)) ∈ fh_T := fh_Tin 688 (by decide +kernel) rfl
set_option maxRecDepth 100000 in
theorem q_689 : (Cond.code ({ cls := "FollowedHours$Sheet", name := "put", desc := "(II)V" } : Jvm.MethodName) prog_4_method_4_code (3 : Nat) (Option.none : Option Jvm.ClassFile.FieldType)) ∈ fh_T := fh_Tin 689 (by decide +kernel) rfl
set_option maxRecDepth 100000 in
theorem q_694 : (Cond.methodLink "FollowedHours" (249 : Nat) ({ cls := "FollowedHours$Sheet", name := "hasPart", desc := "(II)Z" } : Jvm.MethodName)) ∈ fh_T := fh_Tin 694 (by decide +kernel) rfl
set_option maxRecDepth 100000 in
theorem q_695 : (Cond.instanceMethod ({ cls := "FollowedHours$Sheet", name := "hasPart", desc := "(II)Z" } : Jvm.MethodName)) ∈ fh_T := fh_Tin 695 (by decide +kernel) rfl
set_option maxRecDepth 100000 in
theorem q_696 : (Cond.selects "FollowedHours$Sheet" ({ cls := "FollowedHours$Sheet", name := "hasPart", desc := "(II)Z" } : Jvm.MethodName) ({ cls := "FollowedHours$Sheet", name := "hasPart", desc := "(II)Z" } : Jvm.MethodName)) ∈ fh_T := fh_Tin 696 (by decide +kernel) rfl
set_option maxRecDepth 100000 in
theorem q_697 : (Cond.code ({ cls := "FollowedHours$Sheet", name := "hasPart", desc := "(II)Z" } : Jvm.MethodName) prog_4_method_5_code (3 : Nat) (Option.some Jvm.ClassFile.FieldType.boolean)) ∈ fh_T := fh_Tin 697 (by decide +kernel) rfl
set_option maxRecDepth 100000 in
theorem q_698 : (Cond.methodLink "FollowedHours" (255 : Nat) ({ cls := "java/lang/System", name := "arraycopy", desc := "(Ljava/lang/Object;ILjava/lang/Object;II)V" } : Jvm.MethodName)) ∈ fh_T := fh_Tin 698 (by decide +kernel) rfl
set_option maxRecDepth 100000 in
theorem q_723 : (Cond.methodLink "FollowedHours" (266 : Nat) ({ cls := "FollowedHours$Garden", name := "heldCount", desc := "()I" } : Jvm.MethodName)) ∈ fh_T := fh_Tin 723 (by decide +kernel) rfl
set_option maxRecDepth 100000 in
theorem q_724 : (Cond.instanceMethod ({ cls := "FollowedHours$Garden", name := "heldCount", desc := "()I" } : Jvm.MethodName)) ∈ fh_T := fh_Tin 724 (by decide +kernel) rfl
set_option maxRecDepth 100000 in
theorem q_725 : (Cond.selects "FollowedHours$Garden" ({ cls := "FollowedHours$Garden", name := "heldCount", desc := "()I" } : Jvm.MethodName) ({ cls := "FollowedHours$Garden", name := "heldCount", desc := "()I" } : Jvm.MethodName)) ∈ fh_T := fh_Tin 725 (by decide +kernel) rfl
set_option maxRecDepth 100000 in
theorem q_726 : (Cond.code ({ cls := "FollowedHours$Garden", name := "heldCount", desc := "()I" } : Jvm.MethodName) prog_2_method_25_code (3 : Nat) (Option.some Jvm.ClassFile.FieldType.int)) ∈ fh_T := fh_Tin 726 (by decide +kernel) rfl
set_option maxRecDepth 100000 in
theorem q_746 : (Cond.fieldLink "FollowedHoursModel" (9 : Nat) "FollowedHoursModel" "now" "[I") ∈ fh_T := fh_Tin 746 (by decide +kernel) rfl
set_option maxRecDepth 100000 in
theorem q_747 : (Cond.fieldLink "FollowedHoursModel" (13 : Nat) "FollowedHoursModel" "kept" "[I") ∈ fh_T := fh_Tin 747 (by decide +kernel) rfl
set_option maxRecDepth 100000 in
theorem q_748 : (Cond.fieldLink "FollowedHoursModel" (16 : Nat) "FollowedHoursModel" "aside" "[I") ∈ fh_T := fh_Tin 748 (by decide +kernel) rfl
set_option maxRecDepth 100000 in
theorem q_749 : (Cond.fieldLink "FollowedHoursModel" (319 : Nat) "FollowedHoursModel" "isKept" "Z") ∈ fh_T := fh_Tin 749 (by decide +kernel) rfl
set_option maxRecDepth 100000 in
theorem q_750 : (Cond.fieldLink "FollowedHoursModel" (19 : Nat) "FollowedHoursModel" "found" "[I") ∈ fh_T := fh_Tin 750 (by decide +kernel) rfl
set_option maxRecDepth 100000 in
theorem q_751 : (Cond.fieldLink "FollowedHoursModel" (22 : Nat) "FollowedHoursModel" "goings" "[I") ∈ fh_T := fh_Tin 751 (by decide +kernel) rfl
set_option maxRecDepth 100000 in
theorem q_752 : (Cond.fieldLink "FollowedHoursModel" (25 : Nat) "FollowedHoursModel" "tape" "[I") ∈ fh_T := fh_Tin 752 (by decide +kernel) rfl
set_option maxRecDepth 100000 in
theorem q_753 : (Cond.fieldLink "FollowedHoursModel" (227 : Nat) "FollowedHoursModel" "taped" "I") ∈ fh_T := fh_Tin 753 (by decide +kernel) rfl
set_option maxRecDepth 100000 in
theorem q_754 : (Cond.fieldLink "FollowedHoursModel" (234 : Nat) "FollowedHoursModel" "begins" "I") ∈ fh_T := fh_Tin 754 (by decide +kernel) rfl
set_option maxRecDepth 100000 in
theorem q_755 : (Cond.fieldLink "FollowedHoursModel" (231 : Nat) "FollowedHoursModel" "ends" "I") ∈ fh_T := fh_Tin 755 (by decide +kernel) rfl
set_option maxRecDepth 100000 in
theorem q_756 : (Cond.fieldLink "FollowedHoursModel" (243 : Nat) "FollowedHoursModel" "sort" "I") ∈ fh_T := fh_Tin 756 (by decide +kernel) rfl
set_option maxRecDepth 100000 in
theorem q_757 : (Cond.fieldLink "FollowedHoursModel" (240 : Nat) "FollowedHoursModel" "value" "I") ∈ fh_T := fh_Tin 757 (by decide +kernel) rfl
set_option maxRecDepth 100000 in
theorem q_758 : (Cond.fieldLink "FollowedHoursModel" (253 : Nat) "FollowedHoursModel" "isWrong" "Z") ∈ fh_T := fh_Tin 758 (by decide +kernel) rfl
set_option maxRecDepth 100000 in
theorem q_759 : (Cond.fieldLink "FollowedHoursModel" (44 : Nat) "FollowedHoursModel" "kindNames" "[Ljava/lang/String;") ∈ fh_T := fh_Tin 759 (by decide +kernel) rfl
set_option maxRecDepth 100000 in
theorem q_760 : (Cond.fieldLink "FollowedHoursModel" (48 : Nat) "FollowedHoursModel" "items" "[I") ∈ fh_T := fh_Tin 760 (by decide +kernel) rfl
set_option maxRecDepth 100000 in
theorem q_761 : (Cond.fieldLink "FollowedHoursModel" (264 : Nat) "FollowedHoursModel" "itemMany" "I") ∈ fh_T := fh_Tin 761 (by decide +kernel) rfl
set_option maxRecDepth 100000 in
theorem q_762 : (Cond.fieldLink "FollowedHoursModel" (277 : Nat) "FollowedHoursModel" "dialThen" "I") ∈ fh_T := fh_Tin 762 (by decide +kernel) rfl
set_option maxRecDepth 100000 in
theorem q_763 : (Cond.fieldLink "FollowedHoursModel" (51 : Nat) "FollowedHoursModel" "widths" "[I") ∈ fh_T := fh_Tin 763 (by decide +kernel) rfl
set_option maxRecDepth 100000 in
theorem q_764 : (Cond.fieldLink "FollowedHoursModel" (54 : Nat) "FollowedHoursModel" "sizes" "[I") ∈ fh_T := fh_Tin 764 (by decide +kernel) rfl
set_option maxRecDepth 100000 in
theorem q_765 : (Cond.fieldLink "FollowedHoursModel" (57 : Nat) "FollowedHoursModel" "numbers" "[I") ∈ fh_T := fh_Tin 765 (by decide +kernel) rfl
set_option maxRecDepth 100000 in
theorem q_766 : (Cond.fieldLink "FollowedHoursModel" (60 : Nat) "FollowedHoursModel" "moved" "[I") ∈ fh_T := fh_Tin 766 (by decide +kernel) rfl
set_option maxRecDepth 100000 in
theorem q_814 : (Cond.methodLink "FollowedHoursModel" (84 : Nat) ({ cls := "FollowedHoursModel", name := "isKind", desc := "(I)Z" } : Jvm.MethodName)) ∈ fh_T := fh_Tin 814 (by decide +kernel) rfl
set_option maxRecDepth 100000 in
theorem q_815 : (Cond.static ({ cls := "FollowedHoursModel", name := "isKind", desc := "(I)Z" } : Jvm.MethodName)) ∈ fh_T := fh_Tin 815 (by decide +kernel) rfl
set_option maxRecDepth 100000 in
theorem q_816 : (Cond.code ({ cls := "FollowedHoursModel", name := "isKind", desc := "(I)Z" } : Jvm.MethodName) prog_7_method_11_code (1 : Nat) (Option.some Jvm.ClassFile.FieldType.boolean)) ∈ fh_T := fh_Tin 816 (by decide +kernel) rfl
set_option maxRecDepth 100000 in
theorem q_817 : (Cond.methodLink "FollowedHoursModel" (73 : Nat) ({ cls := "FollowedHoursModel", name := "within", desc := "(III)Z" } : Jvm.MethodName)) ∈ fh_T := fh_Tin 817 (by decide +kernel) rfl
set_option maxRecDepth 100000 in
theorem q_818 : (Cond.static ({ cls := "FollowedHoursModel", name := "within", desc := "(III)Z" } : Jvm.MethodName)) ∈ fh_T := fh_Tin 818 (by decide +kernel) rfl
set_option maxRecDepth 100000 in
theorem q_819 : (Cond.code ({ cls := "FollowedHoursModel", name := "within", desc := "(III)Z" } : Jvm.MethodName) prog_7_method_3_code (3 : Nat) (Option.some Jvm.ClassFile.FieldType.boolean)) ∈ fh_T := fh_Tin 819 (by decide +kernel) rfl
set_option maxRecDepth 100000 in
theorem q_820 : (Cond.constant "FollowedHoursModel" (63 : Nat) (-1000001 : Int32)) ∈ fh_T := fh_Tin 820 (by decide +kernel) rfl
set_option maxRecDepth 100000 in
theorem q_821 : (Cond.methodLink "FollowedHoursModel" (69 : Nat) ({ cls := "FollowedHoursModel", name := "finding", desc := "(I)I" } : Jvm.MethodName)) ∈ fh_T := fh_Tin 821 (by decide +kernel) rfl
set_option maxRecDepth 100000 in
theorem q_823 : (Cond.instanceMethod ({ cls := "FollowedHoursModel", name := "finding", desc := "(I)I" } : Jvm.MethodName)) ∈ fh_T := fh_Tin 823 (by decide +kernel) rfl
set_option maxRecDepth 100000 in
theorem q_824 : (Cond.code ({ cls := "FollowedHoursModel", name := "finding", desc := "(I)I" } : Jvm.MethodName) prog_7_method_2_code (2 : Nat) (Option.some Jvm.ClassFile.FieldType.int)) ∈ fh_T := fh_Tin 824 (by decide +kernel) rfl
set_option maxRecDepth 100000 in
theorem q_825 : (Cond.constant "FollowedHoursModel" (88 : Nat) (-1000002 : Int32)) ∈ fh_T := fh_Tin 825 (by decide +kernel) rfl
set_option maxRecDepth 100000 in
theorem q_826 : (Cond.methodLink "FollowedHoursModel" (89 : Nat) ({ cls := "FollowedHoursModel", name := "comes", desc := "(IIIIII)I" } : Jvm.MethodName)) ∈ fh_T := fh_Tin 826 (by decide +kernel) rfl
set_option maxRecDepth 100000 in
theorem q_828 : (Cond.instanceMethod ({ cls := "FollowedHoursModel", name := "comes", desc := "(IIIIII)I" } : Jvm.MethodName)) ∈ fh_T := fh_Tin 828 (by decide +kernel) rfl
set_option maxRecDepth 100000 in
theorem q_829 : (Cond.code ({ cls := "FollowedHoursModel", name := "comes", desc := "(IIIIII)I" } : Jvm.MethodName) prog_7_method_16_code (8 : Nat) (Option.some Jvm.ClassFile.FieldType.int)) ∈ fh_T := fh_Tin 829 (by decide +kernel) rfl
set_option maxRecDepth 100000 in
theorem q_830 : (Cond.methodLink "FollowedHoursModel" (77 : Nat) ({ cls := "FollowedHoursModel", name := "at", desc := "(II)I" } : Jvm.MethodName)) ∈ fh_T := fh_Tin 830 (by decide +kernel) rfl
set_option maxRecDepth 100000 in
theorem q_831 : (Cond.static ({ cls := "FollowedHoursModel", name := "at", desc := "(II)I" } : Jvm.MethodName)) ∈ fh_T := fh_Tin 831 (by decide +kernel) rfl
set_option maxRecDepth 100000 in
theorem q_832 : (Cond.code ({ cls := "FollowedHoursModel", name := "at", desc := "(II)I" } : Jvm.MethodName) prog_7_method_13_code (2 : Nat) (Option.some Jvm.ClassFile.FieldType.int)) ∈ fh_T := fh_Tin 832 (by decide +kernel) rfl
set_option maxRecDepth 100000 in
theorem q_837 : (Cond.methodLink "FollowedHoursModel" (112 : Nat) ({ cls := "FollowedHoursModel", name := "isDial", desc := "(I)Z" } : Jvm.MethodName)) ∈ fh_T := fh_Tin 837 (by decide +kernel) rfl
set_option maxRecDepth 100000 in
theorem q_839 : (Cond.instanceMethod ({ cls := "FollowedHoursModel", name := "isDial", desc := "(I)Z" } : Jvm.MethodName)) ∈ fh_T := fh_Tin 839 (by decide +kernel) rfl
set_option maxRecDepth 100000 in
theorem q_840 : (Cond.code ({ cls := "FollowedHoursModel", name := "isDial", desc := "(I)Z" } : Jvm.MethodName) prog_7_method_10_code (2 : Nat) (Option.some Jvm.ClassFile.FieldType.boolean)) ∈ fh_T := fh_Tin 840 (by decide +kernel) rfl
set_option maxRecDepth 100000 in
theorem q_841 : (Cond.methodLink "FollowedHoursModel" (115 : Nat) ({ cls := "FollowedHoursModel", name := "pace", desc := "(I)I" } : Jvm.MethodName)) ∈ fh_T := fh_Tin 841 (by decide +kernel) rfl
set_option maxRecDepth 100000 in
theorem q_843 : (Cond.instanceMethod ({ cls := "FollowedHoursModel", name := "pace", desc := "(I)I" } : Jvm.MethodName)) ∈ fh_T := fh_Tin 843 (by decide +kernel) rfl
set_option maxRecDepth 100000 in
theorem q_844 : (Cond.code ({ cls := "FollowedHoursModel", name := "pace", desc := "(I)I" } : Jvm.MethodName) prog_7_method_22_code (5 : Nat) (Option.some Jvm.ClassFile.FieldType.int)) ∈ fh_T := fh_Tin 844 (by decide +kernel) rfl
set_option maxRecDepth 100000 in
theorem q_845 : (Cond.methodLink "FollowedHoursModel" (101 : Nat) ({ cls := "FollowedHoursModel", name := "plainPace", desc := "(I)I" } : Jvm.MethodName)) ∈ fh_T := fh_Tin 845 (by decide +kernel) rfl
set_option maxRecDepth 100000 in
theorem q_847 : (Cond.instanceMethod ({ cls := "FollowedHoursModel", name := "plainPace", desc := "(I)I" } : Jvm.MethodName)) ∈ fh_T := fh_Tin 847 (by decide +kernel) rfl
set_option maxRecDepth 100000 in
theorem q_848 : (Cond.code ({ cls := "FollowedHoursModel", name := "plainPace", desc := "(I)I" } : Jvm.MethodName) prog_7_method_21_code (4 : Nat) (Option.some Jvm.ClassFile.FieldType.int)) ∈ fh_T := fh_Tin 848 (by decide +kernel) rfl
set_option maxRecDepth 100000 in
theorem q_849 : (Cond.methodLink "FollowedHoursModel" (81 : Nat) ({ cls := "FollowedHoursModel", name := "dialIs", desc := "(II)I" } : Jvm.MethodName)) ∈ fh_T := fh_Tin 849 (by decide +kernel) rfl
set_option maxRecDepth 100000 in
theorem q_851 : (Cond.instanceMethod ({ cls := "FollowedHoursModel", name := "dialIs", desc := "(II)I" } : Jvm.MethodName)) ∈ fh_T := fh_Tin 851 (by decide +kernel) rfl
set_option maxRecDepth 100000 in
theorem q_852 : (Cond.code ({ cls := "FollowedHoursModel", name := "dialIs", desc := "(II)I" } : Jvm.MethodName) prog_7_method_14_code (3 : Nat) (Option.some Jvm.ClassFile.FieldType.int)) ∈ fh_T := fh_Tin 852 (by decide +kernel) rfl
set_option maxRecDepth 100000 in
theorem q_853 : (Cond.methodLink "FollowedHoursModel" (96 : Nat) ({ cls := "FollowedHoursModel", name := "late", desc := "(I)I" } : Jvm.MethodName)) ∈ fh_T := fh_Tin 853 (by decide +kernel) rfl
set_option maxRecDepth 100000 in
theorem q_854 : (Cond.static ({ cls := "FollowedHoursModel", name := "late", desc := "(I)I" } : Jvm.MethodName)) ∈ fh_T := fh_Tin 854 (by decide +kernel) rfl
set_option maxRecDepth 100000 in
theorem q_855 : (Cond.code ({ cls := "FollowedHoursModel", name := "late", desc := "(I)I" } : Jvm.MethodName) prog_7_method_20_code (1 : Nat) (Option.some Jvm.ClassFile.FieldType.int)) ∈ fh_T := fh_Tin 855 (by decide +kernel) rfl
set_option maxRecDepth 100000 in
theorem q_856 : (Cond.methodLink "FollowedHoursModel" (98 : Nat) ({ cls := "FollowedHoursModel", name := "isStopped", desc := "(I)Z" } : Jvm.MethodName)) ∈ fh_T := fh_Tin 856 (by decide +kernel) rfl
set_option maxRecDepth 100000 in
theorem q_858 : (Cond.instanceMethod ({ cls := "FollowedHoursModel", name := "isStopped", desc := "(I)Z" } : Jvm.MethodName)) ∈ fh_T := fh_Tin 858 (by decide +kernel) rfl
set_option maxRecDepth 100000 in
theorem q_859 : (Cond.code ({ cls := "FollowedHoursModel", name := "isStopped", desc := "(I)Z" } : Jvm.MethodName) prog_7_method_15_code (2 : Nat) (Option.some Jvm.ClassFile.FieldType.boolean)) ∈ fh_T := fh_Tin 859 (by decide +kernel) rfl
set_option maxRecDepth 100000 in
theorem q_860 : (Cond.methodLink "FollowedHoursModel" (104 : Nat) ({ cls := "java/lang/Math", name := "max", desc := "(II)I" } : Jvm.MethodName)) ∈ fh_T := fh_Tin 860 (by decide +kernel) rfl
set_option maxRecDepth 100000 in
theorem q_861 : (Cond.methodLink "FollowedHoursModel" (109 : Nat) ({ cls := "java/lang/Math", name := "min", desc := "(II)I" } : Jvm.MethodName)) ∈ fh_T := fh_Tin 861 (by decide +kernel) rfl
set_option maxRecDepth 100000 in
theorem q_866 : (Cond.methodLink "FollowedHoursModel" (121 : Nat) ({ cls := "FollowedHoursModel", name := "mayBe", desc := "(II)Z" } : Jvm.MethodName)) ∈ fh_T := fh_Tin 866 (by decide +kernel) rfl
set_option maxRecDepth 100000 in
theorem q_868 : (Cond.instanceMethod ({ cls := "FollowedHoursModel", name := "mayBe", desc := "(II)Z" } : Jvm.MethodName)) ∈ fh_T := fh_Tin 868 (by decide +kernel) rfl
set_option maxRecDepth 100000 in
theorem q_869 : (Cond.code ({ cls := "FollowedHoursModel", name := "mayBe", desc := "(II)Z" } : Jvm.MethodName) prog_7_method_24_code (3 : Nat) (Option.some Jvm.ClassFile.FieldType.boolean)) ∈ fh_T := fh_Tin 869 (by decide +kernel) rfl
set_option maxRecDepth 100000 in
theorem q_870 : (Cond.methodLink "FollowedHoursModel" (118 : Nat) ({ cls := "FollowedHoursModel", name := "isHour", desc := "(I)Z" } : Jvm.MethodName)) ∈ fh_T := fh_Tin 870 (by decide +kernel) rfl
set_option maxRecDepth 100000 in
theorem q_871 : (Cond.static ({ cls := "FollowedHoursModel", name := "isHour", desc := "(I)Z" } : Jvm.MethodName)) ∈ fh_T := fh_Tin 871 (by decide +kernel) rfl
set_option maxRecDepth 100000 in
theorem q_872 : (Cond.code ({ cls := "FollowedHoursModel", name := "isHour", desc := "(I)Z" } : Jvm.MethodName) prog_7_method_12_code (1 : Nat) (Option.some Jvm.ClassFile.FieldType.boolean)) ∈ fh_T := fh_Tin 872 (by decide +kernel) rfl
set_option maxRecDepth 100000 in
theorem q_873 : (Cond.methodLink "FollowedHoursModel" (125 : Nat) ({ cls := "FollowedHoursModel", name := "become", desc := "(II)I" } : Jvm.MethodName)) ∈ fh_T := fh_Tin 873 (by decide +kernel) rfl
set_option maxRecDepth 100000 in
theorem q_875 : (Cond.instanceMethod ({ cls := "FollowedHoursModel", name := "become", desc := "(II)I" } : Jvm.MethodName)) ∈ fh_T := fh_Tin 875 (by decide +kernel) rfl
set_option maxRecDepth 100000 in
theorem q_876 : (Cond.code ({ cls := "FollowedHoursModel", name := "become", desc := "(II)I" } : Jvm.MethodName) prog_7_method_4_code (4 : Nat) (Option.some Jvm.ClassFile.FieldType.int)) ∈ fh_T := fh_Tin 876 (by decide +kernel) rfl
set_option maxRecDepth 100000 in
theorem q_881 : (Cond.methodLink "FollowedHoursModel" (128 : Nat) ({ cls := "FollowedHoursModel", name := "round", desc := "(I)I" } : Jvm.MethodName)) ∈ fh_T := fh_Tin 881 (by decide +kernel) rfl
set_option maxRecDepth 100000 in
theorem q_882 : (Cond.static ({ cls := "FollowedHoursModel", name := "round", desc := "(I)I" } : Jvm.MethodName)) ∈ fh_T := fh_Tin 882 (by decide +kernel) rfl
set_option maxRecDepth 100000 in
theorem q_883 : (Cond.code ({ cls := "FollowedHoursModel", name := "round", desc := "(I)I" } : Jvm.MethodName) prog_7_method_26_code (2 : Nat) (Option.some Jvm.ClassFile.FieldType.int)) ∈ fh_T := fh_Tin 883 (by decide +kernel) rfl
set_option maxRecDepth 100000 in
theorem q_888 : (Cond.methodLink "FollowedHoursModel" (131 : Nat) ({ cls := "FollowedHoursModel", name := "stops", desc := "(II)Z" } : Jvm.MethodName)) ∈ fh_T := fh_Tin 888 (by decide +kernel) rfl
set_option maxRecDepth 100000 in
theorem q_890 : (Cond.instanceMethod ({ cls := "FollowedHoursModel", name := "stops", desc := "(II)Z" } : Jvm.MethodName)) ∈ fh_T := fh_Tin 890 (by decide +kernel) rfl
set_option maxRecDepth 100000 in
theorem q_891 : (Cond.code ({ cls := "FollowedHoursModel", name := "stops", desc := "(II)Z" } : Jvm.MethodName) prog_7_method_28_code (4 : Nat) (Option.some Jvm.ClassFile.FieldType.boolean)) ∈ fh_T := fh_Tin 891 (by decide +kernel) rfl
set_option maxRecDepth 100000 in
theorem q_896 : (Cond.constant "FollowedHoursModel" (137 : Nat) (99999 : Int32)) ∈ fh_T := fh_Tin 896 (by decide +kernel) rfl
set_option maxRecDepth 100000 in
theorem q_897 : (Cond.constant "FollowedHoursModel" (138 : Nat) (-1000005 : Int32)) ∈ fh_T := fh_Tin 897 (by decide +kernel) rfl
set_option maxRecDepth 100000 in
theorem q_898 : (Cond.methodLink "FollowedHoursModel" (139 : Nat) ({ cls := "FollowedHoursModel", name := "ticks", desc := "(I)V" } : Jvm.MethodName)) ∈ fh_T := fh_Tin 898 (by decide +kernel) rfl
set_option maxRecDepth 100000 in
theorem q_900 : (Cond.instanceMethod ({ cls := "FollowedHoursModel", name := "ticks", desc := "(I)V" } : Jvm.MethodName)) ∈ fh_T := fh_Tin 900 (by decide +kernel) rfl
set_option maxRecDepth 100000 in
theorem q_901 : (Cond.code ({ cls := "FollowedHoursModel", name := "ticks", desc := "(I)V" } : Jvm.MethodName) prog_7_method_31_code (3 : Nat) (Option.none : Option Jvm.ClassFile.FieldType)) ∈ fh_T := fh_Tin 901 (by decide +kernel) rfl
set_option maxRecDepth 100000 in
theorem q_902 : (Cond.methodLink "FollowedHoursModel" (134 : Nat) ({ cls := "FollowedHoursModel", name := "tick", desc := "()V" } : Jvm.MethodName)) ∈ fh_T := fh_Tin 902 (by decide +kernel) rfl
set_option maxRecDepth 100000 in
theorem q_904 : (Cond.instanceMethod ({ cls := "FollowedHoursModel", name := "tick", desc := "()V" } : Jvm.MethodName)) ∈ fh_T := fh_Tin 904 (by decide +kernel) rfl
set_option maxRecDepth 100000 in
theorem q_905 : (Cond.code ({ cls := "FollowedHoursModel", name := "tick", desc := "()V" } : Jvm.MethodName) prog_7_method_30_code (2 : Nat) (Option.none : Option Jvm.ClassFile.FieldType)) ∈ fh_T := fh_Tin 905 (by decide +kernel) rfl
set_option maxRecDepth 100000 in
theorem q_910 : (Cond.methodLink "FollowedHoursModel" (149 : Nat) ({ cls := "FollowedHoursModel", name := "stoppedNow", desc := "()I" } : Jvm.MethodName)) ∈ fh_T := fh_Tin 910 (by decide +kernel) rfl
set_option maxRecDepth 100000 in
theorem q_912 : (Cond.instanceMethod ({ cls := "FollowedHoursModel", name := "stoppedNow", desc := "()I" } : Jvm.MethodName)) ∈ fh_T := fh_Tin 912 (by decide +kernel) rfl
set_option maxRecDepth 100000 in
theorem q_913 : (Cond.code ({ cls := "FollowedHoursModel", name := "stoppedNow", desc := "()I" } : Jvm.MethodName) prog_7_method_33_code (3 : Nat) (Option.some Jvm.ClassFile.FieldType.int)) ∈ fh_T := fh_Tin 913 (by decide +kernel) rfl
set_option maxRecDepth 100000 in
theorem q_914 : (Cond.methodLink "FollowedHoursModel" (153 : Nat) ({ cls := "FollowedHoursModel", name := "stillNow", desc := "()I" } : Jvm.MethodName)) ∈ fh_T := fh_Tin 914 (by decide +kernel) rfl
set_option maxRecDepth 100000 in
theorem q_916 : (Cond.instanceMethod ({ cls := "FollowedHoursModel", name := "stillNow", desc := "()I" } : Jvm.MethodName)) ∈ fh_T := fh_Tin 916 (by decide +kernel) rfl
set_option maxRecDepth 100000 in
theorem q_917 : (Cond.code ({ cls := "FollowedHoursModel", name := "stillNow", desc := "()I" } : Jvm.MethodName) prog_7_method_34_code (3 : Nat) (Option.some Jvm.ClassFile.FieldType.int)) ∈ fh_T := fh_Tin 917 (by decide +kernel) rfl
set_option maxRecDepth 100000 in
theorem q_918 : (Cond.methodLink "FollowedHoursModel" (156 : Nat) ({ cls := "FollowedHoursModel", name := "ownNow", desc := "()I" } : Jvm.MethodName)) ∈ fh_T := fh_Tin 918 (by decide +kernel) rfl
set_option maxRecDepth 100000 in
theorem q_920 : (Cond.instanceMethod ({ cls := "FollowedHoursModel", name := "ownNow", desc := "()I" } : Jvm.MethodName)) ∈ fh_T := fh_Tin 920 (by decide +kernel) rfl
set_option maxRecDepth 100000 in
theorem q_921 : (Cond.code ({ cls := "FollowedHoursModel", name := "ownNow", desc := "()I" } : Jvm.MethodName) prog_7_method_35_code (3 : Nat) (Option.some Jvm.ClassFile.FieldType.int)) ∈ fh_T := fh_Tin 921 (by decide +kernel) rfl
set_option maxRecDepth 100000 in
theorem q_922 : (Cond.methodLink "FollowedHoursModel" (159 : Nat) ({ cls := "FollowedHoursModel", name := "sumOf", desc := "(I)I" } : Jvm.MethodName)) ∈ fh_T := fh_Tin 922 (by decide +kernel) rfl
set_option maxRecDepth 100000 in
theorem q_924 : (Cond.instanceMethod ({ cls := "FollowedHoursModel", name := "sumOf", desc := "(I)I" } : Jvm.MethodName)) ∈ fh_T := fh_Tin 924 (by decide +kernel) rfl
set_option maxRecDepth 100000 in
theorem q_925 : (Cond.code ({ cls := "FollowedHoursModel", name := "sumOf", desc := "(I)I" } : Jvm.MethodName) prog_7_method_36_code (4 : Nat) (Option.some Jvm.ClassFile.FieldType.int)) ∈ fh_T := fh_Tin 925 (by decide +kernel) rfl
set_option maxRecDepth 100000 in
theorem q_926 : (Cond.methodLink "FollowedHoursModel" (162 : Nat) ({ cls := "FollowedHoursModel", name := "manyShow", desc := "(I)I" } : Jvm.MethodName)) ∈ fh_T := fh_Tin 926 (by decide +kernel) rfl
set_option maxRecDepth 100000 in
theorem q_928 : (Cond.instanceMethod ({ cls := "FollowedHoursModel", name := "manyShow", desc := "(I)I" } : Jvm.MethodName)) ∈ fh_T := fh_Tin 928 (by decide +kernel) rfl
set_option maxRecDepth 100000 in
theorem q_929 : (Cond.code ({ cls := "FollowedHoursModel", name := "manyShow", desc := "(I)I" } : Jvm.MethodName) prog_7_method_37_code (2 : Nat) (Option.some Jvm.ClassFile.FieldType.int)) ∈ fh_T := fh_Tin 929 (by decide +kernel) rfl
set_option maxRecDepth 100000 in
theorem q_930 : (Cond.methodLink "FollowedHoursModel" (143 : Nat) ({ cls := "FollowedHoursModel", name := "whoShow", desc := "(I)I" } : Jvm.MethodName)) ∈ fh_T := fh_Tin 930 (by decide +kernel) rfl
set_option maxRecDepth 100000 in
theorem q_932 : (Cond.instanceMethod ({ cls := "FollowedHoursModel", name := "whoShow", desc := "(I)I" } : Jvm.MethodName)) ∈ fh_T := fh_Tin 932 (by decide +kernel) rfl
set_option maxRecDepth 100000 in
theorem q_933 : (Cond.code ({ cls := "FollowedHoursModel", name := "whoShow", desc := "(I)I" } : Jvm.MethodName) prog_7_method_38_code (4 : Nat) (Option.some Jvm.ClassFile.FieldType.int)) ∈ fh_T := fh_Tin 933 (by decide +kernel) rfl
set_option maxRecDepth 100000 in
theorem q_934 : (Cond.methodLink "FollowedHoursModel" (146 : Nat) ({ cls := "FollowedHoursModel", name := "bits", desc := "(I)I" } : Jvm.MethodName)) ∈ fh_T := fh_Tin 934 (by decide +kernel) rfl
set_option maxRecDepth 100000 in
theorem q_935 : (Cond.static ({ cls := "FollowedHoursModel", name := "bits", desc := "(I)I" } : Jvm.MethodName)) ∈ fh_T := fh_Tin 935 (by decide +kernel) rfl
set_option maxRecDepth 100000 in
theorem q_936 : (Cond.code ({ cls := "FollowedHoursModel", name := "bits", desc := "(I)I" } : Jvm.MethodName) prog_7_method_9_code (3 : Nat) (Option.some Jvm.ClassFile.FieldType.int)) ∈ fh_T := fh_Tin 936 (by decide +kernel) rfl
set_option maxRecDepth 100000 in
theorem q_941 : (Cond.methodLink "FollowedHoursModel" (168 : Nat) ({ cls := "FollowedHoursModel", name := "wayOf", desc := "(I)I" } : Jvm.MethodName)) ∈ fh_T := fh_Tin 941 (by decide +kernel) rfl
set_option maxRecDepth 100000 in
theorem q_943 : (Cond.instanceMethod ({ cls := "FollowedHoursModel", name := "wayOf", desc := "(I)I" } : Jvm.MethodName)) ∈ fh_T := fh_Tin 943 (by decide +kernel) rfl
set_option maxRecDepth 100000 in
theorem q_944 : (Cond.code ({ cls := "FollowedHoursModel", name := "wayOf", desc := "(I)I" } : Jvm.MethodName) prog_7_method_40_code (4 : Nat) (Option.some Jvm.ClassFile.FieldType.int)) ∈ fh_T := fh_Tin 944 (by decide +kernel) rfl
set_option maxRecDepth 100000 in
theorem q_945 : (Cond.methodLink "FollowedHoursModel" (165 : Nat) ({ cls := "FollowedHoursModel", name := "has", desc := "(II)Z" } : Jvm.MethodName)) ∈ fh_T := fh_Tin 945 (by decide +kernel) rfl
set_option maxRecDepth 100000 in
theorem q_946 : (Cond.static ({ cls := "FollowedHoursModel", name := "has", desc := "(II)Z" } : Jvm.MethodName)) ∈ fh_T := fh_Tin 946 (by decide +kernel) rfl
set_option maxRecDepth 100000 in
theorem q_947 : (Cond.code ({ cls := "FollowedHoursModel", name := "has", desc := "(II)Z" } : Jvm.MethodName) prog_7_method_8_code (2 : Nat) (Option.some Jvm.ClassFile.FieldType.boolean)) ∈ fh_T := fh_Tin 947 (by decide +kernel) rfl
set_option maxRecDepth 100000 in
theorem q_952 : (Cond.methodLink "FollowedHoursModel" (171 : Nat) ({ cls := "FollowedHoursModel", name := "ringOf", desc := "(I)I" } : Jvm.MethodName)) ∈ fh_T := fh_Tin 952 (by decide +kernel) rfl
set_option maxRecDepth 100000 in
theorem q_954 : (Cond.instanceMethod ({ cls := "FollowedHoursModel", name := "ringOf", desc := "(I)I" } : Jvm.MethodName)) ∈ fh_T := fh_Tin 954 (by decide +kernel) rfl
set_option maxRecDepth 100000 in
theorem q_955 : (Cond.code ({ cls := "FollowedHoursModel", name := "ringOf", desc := "(I)I" } : Jvm.MethodName) prog_7_method_41_code (4 : Nat) (Option.some Jvm.ClassFile.FieldType.int)) ∈ fh_T := fh_Tin 955 (by decide +kernel) rfl
set_option maxRecDepth 100000 in
theorem q_960 : (Cond.methodLink "FollowedHoursModel" (174 : Nat) ({ cls := "FollowedHoursModel", name := "manyRings", desc := "()I" } : Jvm.MethodName)) ∈ fh_T := fh_Tin 960 (by decide +kernel) rfl
set_option maxRecDepth 100000 in
theorem q_962 : (Cond.instanceMethod ({ cls := "FollowedHoursModel", name := "manyRings", desc := "()I" } : Jvm.MethodName)) ∈ fh_T := fh_Tin 962 (by decide +kernel) rfl
set_option maxRecDepth 100000 in
theorem q_963 : (Cond.code ({ cls := "FollowedHoursModel", name := "manyRings", desc := "()I" } : Jvm.MethodName) prog_7_method_44_code (4 : Nat) (Option.some Jvm.ClassFile.FieldType.int)) ∈ fh_T := fh_Tin 963 (by decide +kernel) rfl
set_option maxRecDepth 100000 in
theorem q_972 : (Cond.methodLink "FollowedHoursModel" (177 : Nat) ({ cls := "FollowedHoursModel", name := "underOf", desc := "(I)I" } : Jvm.MethodName)) ∈ fh_T := fh_Tin 972 (by decide +kernel) rfl
set_option maxRecDepth 100000 in
theorem q_974 : (Cond.instanceMethod ({ cls := "FollowedHoursModel", name := "underOf", desc := "(I)I" } : Jvm.MethodName)) ∈ fh_T := fh_Tin 974 (by decide +kernel) rfl
set_option maxRecDepth 100000 in
theorem q_975 : (Cond.code ({ cls := "FollowedHoursModel", name := "underOf", desc := "(I)I" } : Jvm.MethodName) prog_7_method_47_code (4 : Nat) (Option.some Jvm.ClassFile.FieldType.int)) ∈ fh_T := fh_Tin 975 (by decide +kernel) rfl
set_option maxRecDepth 100000 in
theorem q_980 : (Cond.methodLink "FollowedHoursModel" (180 : Nat) ({ cls := "FollowedHoursModel", name := "orNone", desc := "(I)I" } : Jvm.MethodName)) ∈ fh_T := fh_Tin 980 (by decide +kernel) rfl
set_option maxRecDepth 100000 in
theorem q_982 : (Cond.instanceMethod ({ cls := "FollowedHoursModel", name := "orNone", desc := "(I)I" } : Jvm.MethodName)) ∈ fh_T := fh_Tin 982 (by decide +kernel) rfl
set_option maxRecDepth 100000 in
theorem q_983 : (Cond.code ({ cls := "FollowedHoursModel", name := "orNone", desc := "(I)I" } : Jvm.MethodName) prog_7_method_7_code (2 : Nat) (Option.some Jvm.ClassFile.FieldType.int)) ∈ fh_T := fh_Tin 983 (by decide +kernel) rfl
set_option maxRecDepth 100000 in
theorem q_984 : (Cond.constant "FollowedHoursModel" (68 : Nat) (-1000004 : Int32)) ∈ fh_T := fh_Tin 984 (by decide +kernel) rfl
set_option maxRecDepth 100000 in
theorem q_989 : (Cond.methodLink "FollowedHoursModel" (186 : Nat) ({ cls := "FollowedHoursModel", name := "behind", desc := "(III)I" } : Jvm.MethodName)) ∈ fh_T := fh_Tin 989 (by decide +kernel) rfl
set_option maxRecDepth 100000 in
theorem q_991 : (Cond.instanceMethod ({ cls := "FollowedHoursModel", name := "behind", desc := "(III)I" } : Jvm.MethodName)) ∈ fh_T := fh_Tin 991 (by decide +kernel) rfl
set_option maxRecDepth 100000 in
theorem q_992 : (Cond.code ({ cls := "FollowedHoursModel", name := "behind", desc := "(III)I" } : Jvm.MethodName) prog_7_method_50_code (4 : Nat) (Option.some Jvm.ClassFile.FieldType.int)) ∈ fh_T := fh_Tin 992 (by decide +kernel) rfl
set_option maxRecDepth 100000 in
theorem q_993 : (Cond.methodLink "FollowedHoursModel" (64 : Nat) ({ cls := "FollowedHoursModel", name := "copyRow", desc := "([I[I)V" } : Jvm.MethodName)) ∈ fh_T := fh_Tin 993 (by decide +kernel) rfl
set_option maxRecDepth 100000 in
theorem q_994 : (Cond.static ({ cls := "FollowedHoursModel", name := "copyRow", desc := "([I[I)V" } : Jvm.MethodName)) ∈ fh_T := fh_Tin 994 (by decide +kernel) rfl
set_option maxRecDepth 100000 in
theorem q_995 : (Cond.code ({ cls := "FollowedHoursModel", name := "copyRow", desc := "([I[I)V" } : Jvm.MethodName) prog_7_method_5_code (3 : Nat) (Option.none : Option Jvm.ClassFile.FieldType)) ∈ fh_T := fh_Tin 995 (by decide +kernel) rfl
set_option maxRecDepth 100000 in
theorem q_996 : (Cond.methodLink "FollowedHoursModel" (183 : Nat) ({ cls := "FollowedHoursModel", name := "putBack", desc := "(I)I" } : Jvm.MethodName)) ∈ fh_T := fh_Tin 996 (by decide +kernel) rfl
set_option maxRecDepth 100000 in
theorem q_998 : (Cond.instanceMethod ({ cls := "FollowedHoursModel", name := "putBack", desc := "(I)I" } : Jvm.MethodName)) ∈ fh_T := fh_Tin 998 (by decide +kernel) rfl
set_option maxRecDepth 100000 in
theorem q_999 : (Cond.code ({ cls := "FollowedHoursModel", name := "putBack", desc := "(I)I" } : Jvm.MethodName) prog_7_method_6_code (2 : Nat) (Option.some Jvm.ClassFile.FieldType.int)) ∈ fh_T := fh_Tin 999 (by decide +kernel) rfl
set_option maxRecDepth 100000 in
theorem q_1020 : (Cond.methodLink "FollowedHoursModel" (190 : Nat) ({ cls := "FollowedHoursModel", name := "isSettled", desc := "()Z" } : Jvm.MethodName)) ∈ fh_T := fh_Tin 1020 (by decide +kernel) rfl
set_option maxRecDepth 100000 in
theorem q_1022 : (Cond.instanceMethod ({ cls := "FollowedHoursModel", name := "isSettled", desc := "()Z" } : Jvm.MethodName)) ∈ fh_T := fh_Tin 1022 (by decide +kernel) rfl
set_option maxRecDepth 100000 in
theorem q_1023 : (Cond.code ({ cls := "FollowedHoursModel", name := "isSettled", desc := "()Z" } : Jvm.MethodName) prog_7_method_56_code (3 : Nat) (Option.some Jvm.ClassFile.FieldType.boolean)) ∈ fh_T := fh_Tin 1023 (by decide +kernel) rfl
set_option maxRecDepth 100000 in
theorem q_1028 : (Cond.methodLink "FollowedHoursModel" (197 : Nat) ({ cls := "FollowedHoursModel", name := "farIn", desc := "(II)I" } : Jvm.MethodName)) ∈ fh_T := fh_Tin 1028 (by decide +kernel) rfl
set_option maxRecDepth 100000 in
theorem q_1030 : (Cond.instanceMethod ({ cls := "FollowedHoursModel", name := "farIn", desc := "(II)I" } : Jvm.MethodName)) ∈ fh_T := fh_Tin 1030 (by decide +kernel) rfl
set_option maxRecDepth 100000 in
theorem q_1031 : (Cond.code ({ cls := "FollowedHoursModel", name := "farIn", desc := "(II)I" } : Jvm.MethodName) prog_7_method_58_code (5 : Nat) (Option.some Jvm.ClassFile.FieldType.int)) ∈ fh_T := fh_Tin 1031 (by decide +kernel) rfl
set_option maxRecDepth 100000 in
theorem q_1032 : (Cond.methodLink "FollowedHoursModel" (194 : Nat) ({ cls := "java/lang/Math", name := "abs", desc := "(I)I" } : Jvm.MethodName)) ∈ fh_T := fh_Tin 1032 (by decide +kernel) rfl
set_option maxRecDepth 100000 in
theorem q_1041 : (Cond.methodLink "FollowedHoursModel" (200 : Nat) ({ cls := "FollowedHoursModel", name := "mostShown", desc := "()I" } : Jvm.MethodName)) ∈ fh_T := fh_Tin 1041 (by decide +kernel) rfl
set_option maxRecDepth 100000 in
theorem q_1043 : (Cond.instanceMethod ({ cls := "FollowedHoursModel", name := "mostShown", desc := "()I" } : Jvm.MethodName)) ∈ fh_T := fh_Tin 1043 (by decide +kernel) rfl
set_option maxRecDepth 100000 in
theorem q_1044 : (Cond.code ({ cls := "FollowedHoursModel", name := "mostShown", desc := "()I" } : Jvm.MethodName) prog_7_method_61_code (5 : Nat) (Option.some Jvm.ClassFile.FieldType.int)) ∈ fh_T := fh_Tin 1044 (by decide +kernel) rfl
set_option maxRecDepth 100000 in
theorem q_1049 : (Cond.methodLink "FollowedHoursModel" (203 : Nat) ({ cls := "FollowedHoursModel", name := "rightBehind", desc := "(I)I" } : Jvm.MethodName)) ∈ fh_T := fh_Tin 1049 (by decide +kernel) rfl
set_option maxRecDepth 100000 in
theorem q_1051 : (Cond.instanceMethod ({ cls := "FollowedHoursModel", name := "rightBehind", desc := "(I)I" } : Jvm.MethodName)) ∈ fh_T := fh_Tin 1051 (by decide +kernel) rfl
set_option maxRecDepth 100000 in
theorem q_1052 : (Cond.code ({ cls := "FollowedHoursModel", name := "rightBehind", desc := "(I)I" } : Jvm.MethodName) prog_7_method_63_code (2 : Nat) (Option.some Jvm.ClassFile.FieldType.int)) ∈ fh_T := fh_Tin 1052 (by decide +kernel) rfl
set_option maxRecDepth 100000 in
theorem q_1061 : (Cond.methodLink "FollowedHoursModel" (213 : Nat) ({ cls := "FollowedHoursModel", name := "lacks", desc := "(I)I" } : Jvm.MethodName)) ∈ fh_T := fh_Tin 1061 (by decide +kernel) rfl
set_option maxRecDepth 100000 in
theorem q_1063 : (Cond.instanceMethod ({ cls := "FollowedHoursModel", name := "lacks", desc := "(I)I" } : Jvm.MethodName)) ∈ fh_T := fh_Tin 1063 (by decide +kernel) rfl
set_option maxRecDepth 100000 in
theorem q_1064 : (Cond.code ({ cls := "FollowedHoursModel", name := "lacks", desc := "(I)I" } : Jvm.MethodName) prog_7_method_66_code (2 : Nat) (Option.some Jvm.ClassFile.FieldType.int)) ∈ fh_T := fh_Tin 1064 (by decide +kernel) rfl
set_option maxRecDepth 100000 in
theorem q_1065 : (Cond.methodLink "FollowedHoursModel" (206 : Nat) ({ cls := "FollowedHoursModel", name := "isSheet", desc := "(I)Z" } : Jvm.MethodName)) ∈ fh_T := fh_Tin 1065 (by decide +kernel) rfl
set_option maxRecDepth 100000 in
theorem q_1066 : (Cond.static ({ cls := "FollowedHoursModel", name := "isSheet", desc := "(I)Z" } : Jvm.MethodName)) ∈ fh_T := fh_Tin 1066 (by decide +kernel) rfl
set_option maxRecDepth 100000 in
theorem q_1067 : (Cond.code ({ cls := "FollowedHoursModel", name := "isSheet", desc := "(I)Z" } : Jvm.MethodName) prog_7_method_97_code (1 : Nat) (Option.some Jvm.ClassFile.FieldType.boolean)) ∈ fh_T := fh_Tin 1067 (by decide +kernel) rfl
set_option maxRecDepth 100000 in
theorem q_1068 : (Cond.constant "FollowedHoursModel" (209 : Nat) (-1000006 : Int32)) ∈ fh_T := fh_Tin 1068 (by decide +kernel) rfl
set_option maxRecDepth 100000 in
theorem q_1069 : (Cond.methodLink "FollowedHoursModel" (216 : Nat) ({ cls := "FollowedHoursModel", name := "fitting", desc := "(IIII)I" } : Jvm.MethodName)) ∈ fh_T := fh_Tin 1069 (by decide +kernel) rfl
set_option maxRecDepth 100000 in
theorem q_1071 : (Cond.instanceMethod ({ cls := "FollowedHoursModel", name := "fitting", desc := "(IIII)I" } : Jvm.MethodName)) ∈ fh_T := fh_Tin 1071 (by decide +kernel) rfl
set_option maxRecDepth 100000 in
theorem q_1072 : (Cond.code ({ cls := "FollowedHoursModel", name := "fitting", desc := "(IIII)I" } : Jvm.MethodName) prog_7_method_68_code (8 : Nat) (Option.some Jvm.ClassFile.FieldType.int)) ∈ fh_T := fh_Tin 1072 (by decide +kernel) rfl
set_option maxRecDepth 100000 in
theorem q_1073 : (Cond.methodLink "FollowedHoursModel" (210 : Nat) ({ cls := "FollowedHoursModel", name := "isShownSo", desc := "(II)Z" } : Jvm.MethodName)) ∈ fh_T := fh_Tin 1073 (by decide +kernel) rfl
set_option maxRecDepth 100000 in
theorem q_1075 : (Cond.instanceMethod ({ cls := "FollowedHoursModel", name := "isShownSo", desc := "(II)Z" } : Jvm.MethodName)) ∈ fh_T := fh_Tin 1075 (by decide +kernel) rfl
set_option maxRecDepth 100000 in
theorem q_1076 : (Cond.code ({ cls := "FollowedHoursModel", name := "isShownSo", desc := "(II)Z" } : Jvm.MethodName) prog_7_method_67_code (6 : Nat) (Option.some Jvm.ClassFile.FieldType.boolean)) ∈ fh_T := fh_Tin 1076 (by decide +kernel) rfl
set_option maxRecDepth 100000 in
theorem q_1089 : (Cond.methodLink "FollowedHoursModel" (220 : Nat) ({ cls := "FollowedHoursModel", name := "stillWith", desc := "(II)I" } : Jvm.MethodName)) ∈ fh_T := fh_Tin 1089 (by decide +kernel) rfl
set_option maxRecDepth 100000 in
theorem q_1091 : (Cond.instanceMethod ({ cls := "FollowedHoursModel", name := "stillWith", desc := "(II)I" } : Jvm.MethodName)) ∈ fh_T := fh_Tin 1091 (by decide +kernel) rfl
set_option maxRecDepth 100000 in
theorem q_1092 : (Cond.code ({ cls := "FollowedHoursModel", name := "stillWith", desc := "(II)I" } : Jvm.MethodName) prog_7_method_72_code (5 : Nat) (Option.some Jvm.ClassFile.FieldType.int)) ∈ fh_T := fh_Tin 1092 (by decide +kernel) rfl
set_option maxRecDepth 100000 in
theorem q_1105 : (Cond.methodLink "FollowedHoursModel" (224 : Nat) ({ cls := "FollowedHoursModel", name := "drawn", desc := "()I" } : Jvm.MethodName)) ∈ fh_T := fh_Tin 1105 (by decide +kernel) rfl
set_option maxRecDepth 100000 in
theorem q_1107 : (Cond.instanceMethod ({ cls := "FollowedHoursModel", name := "drawn", desc := "()I" } : Jvm.MethodName)) ∈ fh_T := fh_Tin 1107 (by decide +kernel) rfl
set_option maxRecDepth 100000 in
theorem q_1108 : (Cond.code ({ cls := "FollowedHoursModel", name := "drawn", desc := "()I" } : Jvm.MethodName) prog_7_method_76_code (1 : Nat) (Option.some Jvm.ClassFile.FieldType.int)) ∈ fh_T := fh_Tin 1108 (by decide +kernel) rfl
set_option maxRecDepth 100000 in
theorem q_1109 : (Cond.constant "FollowedHoursModel" (223 : Nat) (1103515245 : Int32)) ∈ fh_T := fh_Tin 1109 (by decide +kernel) rfl
set_option maxRecDepth 100000 in
theorem q_1130 : (Cond.methodLink "FollowedHoursModel" (257 : Nat) ({ cls := "FollowedHoursModel", name := "next", desc := "()V" } : Jvm.MethodName)) ∈ fh_T := fh_Tin 1130 (by decide +kernel) rfl
set_option maxRecDepth 100000 in
theorem q_1132 : (Cond.instanceMethod ({ cls := "FollowedHoursModel", name := "next", desc := "()V" } : Jvm.MethodName)) ∈ fh_T := fh_Tin 1132 (by decide +kernel) rfl
set_option maxRecDepth 100000 in
theorem q_1133 : (Cond.code ({ cls := "FollowedHoursModel", name := "next", desc := "()V" } : Jvm.MethodName) prog_7_method_83_code (2 : Nat) (Option.none : Option Jvm.ClassFile.FieldType)) ∈ fh_T := fh_Tin 1133 (by decide +kernel) rfl
set_option maxRecDepth 100000 in
theorem q_1134 : (Cond.methodLink "FollowedHoursModel" (237 : Nat) ({ cls := "FollowedHoursModel", name := "byteAt", desc := "(I)I" } : Jvm.MethodName)) ∈ fh_T := fh_Tin 1134 (by decide +kernel) rfl
set_option maxRecDepth 100000 in
theorem q_1136 : (Cond.instanceMethod ({ cls := "FollowedHoursModel", name := "byteAt", desc := "(I)I" } : Jvm.MethodName)) ∈ fh_T := fh_Tin 1136 (by decide +kernel) rfl
set_option maxRecDepth 100000 in
theorem q_1137 : (Cond.code ({ cls := "FollowedHoursModel", name := "byteAt", desc := "(I)I" } : Jvm.MethodName) prog_7_method_82_code (2 : Nat) (Option.some Jvm.ClassFile.FieldType.int)) ∈ fh_T := fh_Tin 1137 (by decide +kernel) rfl
set_option maxRecDepth 100000 in
theorem q_1138 : (Cond.methodLink "FollowedHoursModel" (302 : Nat) ({ cls := "FollowedHoursModel", name := "readItem", desc := "()V" } : Jvm.MethodName)) ∈ fh_T := fh_Tin 1138 (by decide +kernel) rfl
set_option maxRecDepth 100000 in
theorem q_1140 : (Cond.instanceMethod ({ cls := "FollowedHoursModel", name := "readItem", desc := "()V" } : Jvm.MethodName)) ∈ fh_T := fh_Tin 1140 (by decide +kernel) rfl
set_option maxRecDepth 100000 in
theorem q_1141 : (Cond.code ({ cls := "FollowedHoursModel", name := "readItem", desc := "()V" } : Jvm.MethodName) prog_7_method_91_code (7 : Nat) (Option.none : Option Jvm.ClassFile.FieldType)) ∈ fh_T := fh_Tin 1141 (by decide +kernel) rfl
set_option maxRecDepth 100000 in
theorem q_1142 : (Cond.methodLink "FollowedHoursModel" (274 : Nat) ({ cls := "FollowedHoursModel", name := "kindTold", desc := "()I" } : Jvm.MethodName)) ∈ fh_T := fh_Tin 1142 (by decide +kernel) rfl
set_option maxRecDepth 100000 in
theorem q_1144 : (Cond.instanceMethod ({ cls := "FollowedHoursModel", name := "kindTold", desc := "()I" } : Jvm.MethodName)) ∈ fh_T := fh_Tin 1144 (by decide +kernel) rfl
set_option maxRecDepth 100000 in
theorem q_1145 : (Cond.code ({ cls := "FollowedHoursModel", name := "kindTold", desc := "()I" } : Jvm.MethodName) prog_7_method_88_code (3 : Nat) (Option.some Jvm.ClassFile.FieldType.int)) ∈ fh_T := fh_Tin 1145 (by decide +kernel) rfl
set_option maxRecDepth 100000 in
theorem q_1146 : (Cond.methodLink "FollowedHoursModel" (267 : Nat) ({ cls := "FollowedHoursModel", name := "isWord", desc := "(Ljava/lang/String;)Z" } : Jvm.MethodName)) ∈ fh_T := fh_Tin 1146 (by decide +kernel) rfl
set_option maxRecDepth 100000 in
theorem q_1148 : (Cond.instanceMethod ({ cls := "FollowedHoursModel", name := "isWord", desc := "(Ljava/lang/String;)Z" } : Jvm.MethodName)) ∈ fh_T := fh_Tin 1148 (by decide +kernel) rfl
set_option maxRecDepth 100000 in
theorem q_1149 : (Cond.code ({ cls := "FollowedHoursModel", name := "isWord", desc := "(Ljava/lang/String;)Z" } : Jvm.MethodName) prog_7_method_84_code (4 : Nat) (Option.some Jvm.ClassFile.FieldType.boolean)) ∈ fh_T := fh_Tin 1149 (by decide +kernel) rfl
set_option maxRecDepth 100000 in
theorem q_1150 : (Cond.methodLink "FollowedHoursModel" (246 : Nat) ({ cls := "java/lang/String", name := "length", desc := "()I" } : Jvm.MethodName)) ∈ fh_T := fh_Tin 1150 (by decide +kernel) rfl
set_option maxRecDepth 100000 in
theorem q_1151 : (Cond.methodLink "FollowedHoursModel" (249 : Nat) ({ cls := "java/lang/String", name := "charAt", desc := "(I)C" } : Jvm.MethodName)) ∈ fh_T := fh_Tin 1151 (by decide +kernel) rfl
set_option maxRecDepth 100000 in
theorem q_1152 : (Cond.methodLink "FollowedHoursModel" (260 : Nat) ({ cls := "FollowedHoursModel", name := "must", desc := "(Z)V" } : Jvm.MethodName)) ∈ fh_T := fh_Tin 1152 (by decide +kernel) rfl
set_option maxRecDepth 100000 in
theorem q_1154 : (Cond.instanceMethod ({ cls := "FollowedHoursModel", name := "must", desc := "(Z)V" } : Jvm.MethodName)) ∈ fh_T := fh_Tin 1154 (by decide +kernel) rfl
set_option maxRecDepth 100000 in
theorem q_1155 : (Cond.code ({ cls := "FollowedHoursModel", name := "must", desc := "(Z)V" } : Jvm.MethodName) prog_7_method_85_code (2 : Nat) (Option.none : Option Jvm.ClassFile.FieldType)) ∈ fh_T := fh_Tin 1155 (by decide +kernel) rfl
set_option maxRecDepth 100000 in
theorem q_1157 : (Cond.methodLink "FollowedHoursModel" (282 : Nat) ({ cls := "FollowedHoursModel", name := "isNext", desc := "(Ljava/lang/String;)Z" } : Jvm.MethodName)) ∈ fh_T := fh_Tin 1157 (by decide +kernel) rfl
set_option maxRecDepth 100000 in
theorem q_1159 : (Cond.instanceMethod ({ cls := "FollowedHoursModel", name := "isNext", desc := "(Ljava/lang/String;)Z" } : Jvm.MethodName)) ∈ fh_T := fh_Tin 1159 (by decide +kernel) rfl
set_option maxRecDepth 100000 in
theorem q_1160 : (Cond.code ({ cls := "FollowedHoursModel", name := "isNext", desc := "(Ljava/lang/String;)Z" } : Jvm.MethodName) prog_7_method_89_code (3 : Nat) (Option.some Jvm.ClassFile.FieldType.boolean)) ∈ fh_T := fh_Tin 1160 (by decide +kernel) rfl
set_option maxRecDepth 100000 in
theorem q_1161 : (Cond.methodLink "FollowedHoursModel" (271 : Nat) ({ cls := "FollowedHoursModel", name := "number", desc := "(II)I" } : Jvm.MethodName)) ∈ fh_T := fh_Tin 1161 (by decide +kernel) rfl
set_option maxRecDepth 100000 in
theorem q_1163 : (Cond.instanceMethod ({ cls := "FollowedHoursModel", name := "number", desc := "(II)I" } : Jvm.MethodName)) ∈ fh_T := fh_Tin 1163 (by decide +kernel) rfl
set_option maxRecDepth 100000 in
theorem q_1164 : (Cond.code ({ cls := "FollowedHoursModel", name := "number", desc := "(II)I" } : Jvm.MethodName) prog_7_method_86_code (4 : Nat) (Option.some Jvm.ClassFile.FieldType.int)) ∈ fh_T := fh_Tin 1164 (by decide +kernel) rfl
set_option maxRecDepth 100000 in
theorem q_1167 : (Cond.methodLink "FollowedHoursModel" (289 : Nat) ({ cls := "FollowedHoursModel", name := "goesTold", desc := "()I" } : Jvm.MethodName)) ∈ fh_T := fh_Tin 1167 (by decide +kernel) rfl
set_option maxRecDepth 100000 in
theorem q_1169 : (Cond.instanceMethod ({ cls := "FollowedHoursModel", name := "goesTold", desc := "()I" } : Jvm.MethodName)) ∈ fh_T := fh_Tin 1169 (by decide +kernel) rfl
set_option maxRecDepth 100000 in
theorem q_1170 : (Cond.code ({ cls := "FollowedHoursModel", name := "goesTold", desc := "()I" } : Jvm.MethodName) prog_7_method_90_code (3 : Nat) (Option.some Jvm.ClassFile.FieldType.int)) ∈ fh_T := fh_Tin 1170 (by decide +kernel) rfl
set_option maxRecDepth 100000 in
theorem q_1173 : (Cond.methodLink "FollowedHoursModel" (296 : Nat) ({ cls := "FollowedHoursModel", name := "item", desc := "(IIIIII)V" } : Jvm.MethodName)) ∈ fh_T := fh_Tin 1173 (by decide +kernel) rfl
set_option maxRecDepth 100000 in
theorem q_1175 : (Cond.instanceMethod ({ cls := "FollowedHoursModel", name := "item", desc := "(IIIIII)V" } : Jvm.MethodName)) ∈ fh_T := fh_Tin 1175 (by decide +kernel) rfl
set_option maxRecDepth 100000 in
theorem q_1176 : (Cond.code ({ cls := "FollowedHoursModel", name := "item", desc := "(IIIIII)V" } : Jvm.MethodName) prog_7_method_87_code (8 : Nat) (Option.none : Option Jvm.ClassFile.FieldType)) ∈ fh_T := fh_Tin 1176 (by decide +kernel) rfl
set_option maxRecDepth 100000 in
theorem q_1178 : (Cond.methodLink "FollowedHoursModel" (305 : Nat) ({ cls := "FollowedHoursModel", name := "isToldSo", desc := "(I)I" } : Jvm.MethodName)) ∈ fh_T := fh_Tin 1178 (by decide +kernel) rfl
set_option maxRecDepth 100000 in
theorem q_1180 : (Cond.instanceMethod ({ cls := "FollowedHoursModel", name := "isToldSo", desc := "(I)I" } : Jvm.MethodName)) ∈ fh_T := fh_Tin 1180 (by decide +kernel) rfl
set_option maxRecDepth 100000 in
theorem q_1181 : (Cond.code ({ cls := "FollowedHoursModel", name := "isToldSo", desc := "(I)I" } : Jvm.MethodName) prog_7_method_92_code (4 : Nat) (Option.some Jvm.ClassFile.FieldType.int)) ∈ fh_T := fh_Tin 1181 (by decide +kernel) rfl
set_option maxRecDepth 100000 in
theorem q_1186 : (Cond.methodLink "FollowedHoursModel" (308 : Nat) ({ cls := "FollowedHoursModel", name := "isSpot", desc := "(I)Z" } : Jvm.MethodName)) ∈ fh_T := fh_Tin 1186 (by decide +kernel) rfl
set_option maxRecDepth 100000 in
theorem q_1187 : (Cond.static ({ cls := "FollowedHoursModel", name := "isSpot", desc := "(I)Z" } : Jvm.MethodName)) ∈ fh_T := fh_Tin 1187 (by decide +kernel) rfl
set_option maxRecDepth 100000 in
theorem q_1188 : (Cond.code ({ cls := "FollowedHoursModel", name := "isSpot", desc := "(I)Z" } : Jvm.MethodName) prog_7_method_94_code (1 : Nat) (Option.some Jvm.ClassFile.FieldType.boolean)) ∈ fh_T := fh_Tin 1188 (by decide +kernel) rfl
set_option maxRecDepth 100000 in
theorem q_1193 : (Cond.methodLink "FollowedHoursModel" (311 : Nat) ({ cls := "FollowedHoursModel", name := "isUnder", desc := "(II)Z" } : Jvm.MethodName)) ∈ fh_T := fh_Tin 1193 (by decide +kernel) rfl
set_option maxRecDepth 100000 in
theorem q_1194 : (Cond.static ({ cls := "FollowedHoursModel", name := "isUnder", desc := "(II)Z" } : Jvm.MethodName)) ∈ fh_T := fh_Tin 1194 (by decide +kernel) rfl
set_option maxRecDepth 100000 in
theorem q_1195 : (Cond.code ({ cls := "FollowedHoursModel", name := "isUnder", desc := "(II)Z" } : Jvm.MethodName) prog_7_method_19_code (3 : Nat) (Option.some Jvm.ClassFile.FieldType.boolean)) ∈ fh_T := fh_Tin 1195 (by decide +kernel) rfl
set_option maxRecDepth 100000 in
theorem q_1196 : (Cond.methodLink "FollowedHoursModel" (93 : Nat) ({ cls := "FollowedHoursModel", name := "above", desc := "(I)I" } : Jvm.MethodName)) ∈ fh_T := fh_Tin 1196 (by decide +kernel) rfl
set_option maxRecDepth 100000 in
theorem q_1197 : (Cond.static ({ cls := "FollowedHoursModel", name := "above", desc := "(I)I" } : Jvm.MethodName)) ∈ fh_T := fh_Tin 1197 (by decide +kernel) rfl
set_option maxRecDepth 100000 in
theorem q_1198 : (Cond.code ({ cls := "FollowedHoursModel", name := "above", desc := "(I)I" } : Jvm.MethodName) prog_7_method_18_code (1 : Nat) (Option.some Jvm.ClassFile.FieldType.int)) ∈ fh_T := fh_Tin 1198 (by decide +kernel) rfl
set_option maxRecDepth 100000 in
theorem q_1199 : (Cond.constant "FollowedHoursModel" (314 : Nat) (-1000003 : Int32)) ∈ fh_T := fh_Tin 1199 (by decide +kernel) rfl
set_option maxRecDepth 100000 in
theorem q_1204 : (Cond.constant "FollowedHoursModel" (315 : Nat) (-1000007 : Int32)) ∈ fh_T := fh_Tin 1204 (by decide +kernel) rfl
set_option maxRecDepth 100000 in
theorem q_1209 : (Cond.methodLink "FollowedHoursModel" (316 : Nat) ({ cls := "FollowedHoursModel", name := "cutTo", desc := "(II)I" } : Jvm.MethodName)) ∈ fh_T := fh_Tin 1209 (by decide +kernel) rfl
set_option maxRecDepth 100000 in
theorem q_1210 : (Cond.static ({ cls := "FollowedHoursModel", name := "cutTo", desc := "(II)I" } : Jvm.MethodName)) ∈ fh_T := fh_Tin 1210 (by decide +kernel) rfl
set_option maxRecDepth 100000 in
theorem q_1211 : (Cond.code ({ cls := "FollowedHoursModel", name := "cutTo", desc := "(II)I" } : Jvm.MethodName) prog_7_method_98_code (2 : Nat) (Option.some Jvm.ClassFile.FieldType.int)) ∈ fh_T := fh_Tin 1211 (by decide +kernel) rfl
set_option maxRecDepth 100000 in
theorem q_1244 : (Cond.fieldLink "java/lang/String" (9 : Nat) "java/lang/String" "value" "[B") ∈ fh_T := fh_Tin 1244 (by decide +kernel) rfl
set_option maxRecDepth 100000 in
theorem q_1245 : (Cond.fieldLink "java/lang/String" (15 : Nat) "java/lang/String" "coder" "B") ∈ fh_T := fh_Tin 1245 (by decide +kernel) rfl
