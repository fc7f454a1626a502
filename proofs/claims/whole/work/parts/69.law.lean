set_option maxRecDepth 100000 in
theorem q_163 : (Cond.methodLink "FollowedHoursLaw" (13 : Nat) ({ cls := "FollowedHours", name := "dial", desc := "(I)I" } : Jvm.MethodName)) ∈ fh_T := fh_Tin 163 (by decide +kernel) rfl
set_option maxRecDepth 100000 in
theorem q_164 : (Cond.instanceMethod ({ cls := "FollowedHours", name := "dial", desc := "(I)I" } : Jvm.MethodName)) ∈ fh_T := fh_Tin 164 (by decide +kernel) rfl
set_option maxRecDepth 100000 in
theorem q_165 : (Cond.selects "FollowedHours" ({ cls := "FollowedHours", name := "dial", desc := "(I)I" } : Jvm.MethodName) ({ cls := "FollowedHours", name := "dial", desc := "(I)I" } : Jvm.MethodName)) ∈ fh_T := fh_Tin 165 (by decide +kernel) rfl
set_option maxRecDepth 100000 in
theorem q_166 : (Cond.code ({ cls := "FollowedHours", name := "dial", desc := "(I)I" } : Jvm.MethodName) prog_1_method_2_code (2 : Nat) (Option.some Jvm.ClassFile.FieldType.int)) ∈ fh_T := fh_Tin 166 (by decide +kernel) rfl
set_option maxRecDepth 100000 in
theorem q_192 : (Cond.methodLink "FollowedHoursLaw" (18 : Nat) ({ cls := "FollowedHours", name := "of", desc := "(II)I" } : Jvm.MethodName)) ∈ fh_T := fh_Tin 192 (by decide +kernel) rfl
set_option maxRecDepth 100000 in
theorem q_193 : (Cond.instanceMethod ({ cls := "FollowedHours", name := "of", desc := "(II)I" } : Jvm.MethodName)) ∈ fh_T := fh_Tin 193 (by decide +kernel) rfl
set_option maxRecDepth 100000 in
theorem q_194 : (Cond.selects "FollowedHours" ({ cls := "FollowedHours", name := "of", desc := "(II)I" } : Jvm.MethodName) ({ cls := "FollowedHours", name := "of", desc := "(II)I" } : Jvm.MethodName)) ∈ fh_T := fh_Tin 194 (by decide +kernel) rfl
set_option maxRecDepth 100000 in
theorem q_195 : (Cond.code ({ cls := "FollowedHours", name := "of", desc := "(II)I" } : Jvm.MethodName) prog_1_method_3_code (4 : Nat) (Option.some Jvm.ClassFile.FieldType.int)) ∈ fh_T := fh_Tin 195 (by decide +kernel) rfl
set_option maxRecDepth 100000 in
theorem q_221 : (Cond.methodLink "FollowedHoursLaw" (23 : Nat) ({ cls := "FollowedHours", name := "change", desc := "(III)I" } : Jvm.MethodName)) ∈ fh_T := fh_Tin 221 (by decide +kernel) rfl
set_option maxRecDepth 100000 in
theorem q_222 : (Cond.instanceMethod ({ cls := "FollowedHours", name := "change", desc := "(III)I" } : Jvm.MethodName)) ∈ fh_T := fh_Tin 222 (by decide +kernel) rfl
set_option maxRecDepth 100000 in
theorem q_223 : (Cond.selects "FollowedHours" ({ cls := "FollowedHours", name := "change", desc := "(III)I" } : Jvm.MethodName) ({ cls := "FollowedHours", name := "change", desc := "(III)I" } : Jvm.MethodName)) ∈ fh_T := fh_Tin 223 (by decide +kernel) rfl
set_option maxRecDepth 100000 in
theorem q_224 : (Cond.code ({ cls := "FollowedHours", name := "change", desc := "(III)I" } : Jvm.MethodName) prog_1_method_4_code (6 : Nat) (Option.some Jvm.ClassFile.FieldType.int)) ∈ fh_T := fh_Tin 224 (by decide +kernel) rfl
set_option maxRecDepth 100000 in
theorem q_235 : (Cond.methodLink "FollowedHoursLaw" (28 : Nat) ({ cls := "FollowedHours", name := "jog", desc := "(II)I" } : Jvm.MethodName)) ∈ fh_T := fh_Tin 235 (by decide +kernel) rfl
set_option maxRecDepth 100000 in
theorem q_236 : (Cond.instanceMethod ({ cls := "FollowedHours", name := "jog", desc := "(II)I" } : Jvm.MethodName)) ∈ fh_T := fh_Tin 236 (by decide +kernel) rfl
set_option maxRecDepth 100000 in
theorem q_237 : (Cond.selects "FollowedHours" ({ cls := "FollowedHours", name := "jog", desc := "(II)I" } : Jvm.MethodName) ({ cls := "FollowedHours", name := "jog", desc := "(II)I" } : Jvm.MethodName)) ∈ fh_T := fh_Tin 237 (by decide +kernel) rfl
set_option maxRecDepth 100000 in
theorem q_238 : (Cond.code ({ cls := "FollowedHours", name := "jog", desc := "(II)I" } : Jvm.MethodName) prog_1_method_5_code (3 : Nat) (Option.some Jvm.ClassFile.FieldType.int)) ∈ fh_T := fh_Tin 238 (by decide +kernel) rfl
set_option maxRecDepth 100000 in
theorem q_249 : (Cond.methodLink "FollowedHoursLaw" (32 : Nat) ({ cls := "FollowedHours", name := "stop", desc := "(II)I" } : Jvm.MethodName)) ∈ fh_T := fh_Tin 249 (by decide +kernel) rfl
set_option maxRecDepth 100000 in
theorem q_250 : (Cond.instanceMethod ({ cls := "FollowedHours", name := "stop", desc := "(II)I" } : Jvm.MethodName)) ∈ fh_T := fh_Tin 250 (by decide +kernel) rfl
set_option maxRecDepth 100000 in
theorem q_251 : (Cond.selects "FollowedHours" ({ cls := "FollowedHours", name := "stop", desc := "(II)I" } : Jvm.MethodName) ({ cls := "FollowedHours", name := "stop", desc := "(II)I" } : Jvm.MethodName)) ∈ fh_T := fh_Tin 251 (by decide +kernel) rfl
set_option maxRecDepth 100000 in
theorem q_252 : (Cond.code ({ cls := "FollowedHours", name := "stop", desc := "(II)I" } : Jvm.MethodName) prog_1_method_6_code (4 : Nat) (Option.some Jvm.ClassFile.FieldType.int)) ∈ fh_T := fh_Tin 252 (by decide +kernel) rfl
set_option maxRecDepth 100000 in
theorem q_261 : (Cond.methodLink "FollowedHoursLaw" (36 : Nat) ({ cls := "FollowedHours", name := "go", desc := "(I)I" } : Jvm.MethodName)) ∈ fh_T := fh_Tin 261 (by decide +kernel) rfl
set_option maxRecDepth 100000 in
theorem q_262 : (Cond.instanceMethod ({ cls := "FollowedHours", name := "go", desc := "(I)I" } : Jvm.MethodName)) ∈ fh_T := fh_Tin 262 (by decide +kernel) rfl
set_option maxRecDepth 100000 in
theorem q_263 : (Cond.selects "FollowedHours" ({ cls := "FollowedHours", name := "go", desc := "(I)I" } : Jvm.MethodName) ({ cls := "FollowedHours", name := "go", desc := "(I)I" } : Jvm.MethodName)) ∈ fh_T := fh_Tin 263 (by decide +kernel) rfl
set_option maxRecDepth 100000 in
theorem q_264 : (Cond.code ({ cls := "FollowedHours", name := "go", desc := "(I)I" } : Jvm.MethodName) prog_1_method_7_code (2 : Nat) (Option.some Jvm.ClassFile.FieldType.int)) ∈ fh_T := fh_Tin 264 (by decide +kernel) rfl
set_option maxRecDepth 100000 in
theorem q_278 : (Cond.methodLink "FollowedHoursLaw" (40 : Nat) ({ cls := "FollowedHours", name := "now", desc := "(I)I" } : Jvm.MethodName)) ∈ fh_T := fh_Tin 278 (by decide +kernel) rfl
set_option maxRecDepth 100000 in
theorem q_279 : (Cond.instanceMethod ({ cls := "FollowedHours", name := "now", desc := "(I)I" } : Jvm.MethodName)) ∈ fh_T := fh_Tin 279 (by decide +kernel) rfl
set_option maxRecDepth 100000 in
theorem q_280 : (Cond.selects "FollowedHours" ({ cls := "FollowedHours", name := "now", desc := "(I)I" } : Jvm.MethodName) ({ cls := "FollowedHours", name := "now", desc := "(I)I" } : Jvm.MethodName)) ∈ fh_T := fh_Tin 280 (by decide +kernel) rfl
set_option maxRecDepth 100000 in
theorem q_281 : (Cond.code ({ cls := "FollowedHours", name := "now", desc := "(I)I" } : Jvm.MethodName) prog_1_method_8_code (2 : Nat) (Option.some Jvm.ClassFile.FieldType.int)) ∈ fh_T := fh_Tin 281 (by decide +kernel) rfl
set_option maxRecDepth 100000 in
theorem q_313 : (Cond.methodLink "FollowedHoursLaw" (44 : Nat) ({ cls := "FollowedHours", name := "way", desc := "(I)I" } : Jvm.MethodName)) ∈ fh_T := fh_Tin 313 (by decide +kernel) rfl
set_option maxRecDepth 100000 in
theorem q_314 : (Cond.instanceMethod ({ cls := "FollowedHours", name := "way", desc := "(I)I" } : Jvm.MethodName)) ∈ fh_T := fh_Tin 314 (by decide +kernel) rfl
set_option maxRecDepth 100000 in
theorem q_315 : (Cond.selects "FollowedHours" ({ cls := "FollowedHours", name := "way", desc := "(I)I" } : Jvm.MethodName) ({ cls := "FollowedHours", name := "way", desc := "(I)I" } : Jvm.MethodName)) ∈ fh_T := fh_Tin 315 (by decide +kernel) rfl
set_option maxRecDepth 100000 in
theorem q_316 : (Cond.code ({ cls := "FollowedHours", name := "way", desc := "(I)I" } : Jvm.MethodName) prog_1_method_9_code (2 : Nat) (Option.some Jvm.ClassFile.FieldType.int)) ∈ fh_T := fh_Tin 316 (by decide +kernel) rfl
set_option maxRecDepth 100000 in
theorem q_321 : (Cond.methodLink "FollowedHoursLaw" (48 : Nat) ({ cls := "FollowedHours", name := "ring", desc := "(I)I" } : Jvm.MethodName)) ∈ fh_T := fh_Tin 321 (by decide +kernel) rfl
set_option maxRecDepth 100000 in
theorem q_322 : (Cond.instanceMethod ({ cls := "FollowedHours", name := "ring", desc := "(I)I" } : Jvm.MethodName)) ∈ fh_T := fh_Tin 322 (by decide +kernel) rfl
set_option maxRecDepth 100000 in
theorem q_323 : (Cond.selects "FollowedHours" ({ cls := "FollowedHours", name := "ring", desc := "(I)I" } : Jvm.MethodName) ({ cls := "FollowedHours", name := "ring", desc := "(I)I" } : Jvm.MethodName)) ∈ fh_T := fh_Tin 323 (by decide +kernel) rfl
set_option maxRecDepth 100000 in
theorem q_324 : (Cond.code ({ cls := "FollowedHours", name := "ring", desc := "(I)I" } : Jvm.MethodName) prog_1_method_10_code (2 : Nat) (Option.some Jvm.ClassFile.FieldType.int)) ∈ fh_T := fh_Tin 324 (by decide +kernel) rfl
set_option maxRecDepth 100000 in
theorem q_330 : (Cond.methodLink "FollowedHoursLaw" (52 : Nat) ({ cls := "FollowedHours", name := "rings", desc := "()I" } : Jvm.MethodName)) ∈ fh_T := fh_Tin 330 (by decide +kernel) rfl
set_option maxRecDepth 100000 in
theorem q_331 : (Cond.instanceMethod ({ cls := "FollowedHours", name := "rings", desc := "()I" } : Jvm.MethodName)) ∈ fh_T := fh_Tin 331 (by decide +kernel) rfl
set_option maxRecDepth 100000 in
theorem q_332 : (Cond.selects "FollowedHours" ({ cls := "FollowedHours", name := "rings", desc := "()I" } : Jvm.MethodName) ({ cls := "FollowedHours", name := "rings", desc := "()I" } : Jvm.MethodName)) ∈ fh_T := fh_Tin 332 (by decide +kernel) rfl
set_option maxRecDepth 100000 in
theorem q_333 : (Cond.code ({ cls := "FollowedHours", name := "rings", desc := "()I" } : Jvm.MethodName) prog_1_method_11_code (1 : Nat) (Option.some Jvm.ClassFile.FieldType.int)) ∈ fh_T := fh_Tin 333 (by decide +kernel) rfl
set_option maxRecDepth 100000 in
theorem q_346 : (Cond.methodLink "FollowedHoursLaw" (57 : Nat) ({ cls := "FollowedHours", name := "before", desc := "(I)I" } : Jvm.MethodName)) ∈ fh_T := fh_Tin 346 (by decide +kernel) rfl
set_option maxRecDepth 100000 in
theorem q_347 : (Cond.instanceMethod ({ cls := "FollowedHours", name := "before", desc := "(I)I" } : Jvm.MethodName)) ∈ fh_T := fh_Tin 347 (by decide +kernel) rfl
set_option maxRecDepth 100000 in
theorem q_348 : (Cond.selects "FollowedHours" ({ cls := "FollowedHours", name := "before", desc := "(I)I" } : Jvm.MethodName) ({ cls := "FollowedHours", name := "before", desc := "(I)I" } : Jvm.MethodName)) ∈ fh_T := fh_Tin 348 (by decide +kernel) rfl
set_option maxRecDepth 100000 in
theorem q_349 : (Cond.code ({ cls := "FollowedHours", name := "before", desc := "(I)I" } : Jvm.MethodName) prog_1_method_12_code (2 : Nat) (Option.some Jvm.ClassFile.FieldType.int)) ∈ fh_T := fh_Tin 349 (by decide +kernel) rfl
set_option maxRecDepth 100000 in
theorem q_357 : (Cond.methodLink "FollowedHoursLaw" (61 : Nat) ({ cls := "FollowedHours", name := "under", desc := "(I)I" } : Jvm.MethodName)) ∈ fh_T := fh_Tin 357 (by decide +kernel) rfl
set_option maxRecDepth 100000 in
theorem q_358 : (Cond.instanceMethod ({ cls := "FollowedHours", name := "under", desc := "(I)I" } : Jvm.MethodName)) ∈ fh_T := fh_Tin 358 (by decide +kernel) rfl
set_option maxRecDepth 100000 in
theorem q_359 : (Cond.selects "FollowedHours" ({ cls := "FollowedHours", name := "under", desc := "(I)I" } : Jvm.MethodName) ({ cls := "FollowedHours", name := "under", desc := "(I)I" } : Jvm.MethodName)) ∈ fh_T := fh_Tin 359 (by decide +kernel) rfl
set_option maxRecDepth 100000 in
theorem q_360 : (Cond.code ({ cls := "FollowedHours", name := "under", desc := "(I)I" } : Jvm.MethodName) prog_1_method_13_code (2 : Nat) (Option.some Jvm.ClassFile.FieldType.int)) ∈ fh_T := fh_Tin 360 (by decide +kernel) rfl
set_option maxRecDepth 100000 in
theorem q_365 : (Cond.methodLink "FollowedHoursLaw" (65 : Nat) ({ cls := "FollowedHours", name := "greatest", desc := "()I" } : Jvm.MethodName)) ∈ fh_T := fh_Tin 365 (by decide +kernel) rfl
set_option maxRecDepth 100000 in
theorem q_366 : (Cond.instanceMethod ({ cls := "FollowedHours", name := "greatest", desc := "()I" } : Jvm.MethodName)) ∈ fh_T := fh_Tin 366 (by decide +kernel) rfl
set_option maxRecDepth 100000 in
theorem q_367 : (Cond.selects "FollowedHours" ({ cls := "FollowedHours", name := "greatest", desc := "()I" } : Jvm.MethodName) ({ cls := "FollowedHours", name := "greatest", desc := "()I" } : Jvm.MethodName)) ∈ fh_T := fh_Tin 367 (by decide +kernel) rfl
set_option maxRecDepth 100000 in
theorem q_368 : (Cond.code ({ cls := "FollowedHours", name := "greatest", desc := "()I" } : Jvm.MethodName) prog_1_method_14_code (5 : Nat) (Option.some Jvm.ClassFile.FieldType.int)) ∈ fh_T := fh_Tin 368 (by decide +kernel) rfl
set_option maxRecDepth 100000 in
theorem q_370 : (Cond.methodLink "FollowedHoursLaw" (69 : Nat) ({ cls := "FollowedHours", name := "ahead", desc := "(II)I" } : Jvm.MethodName)) ∈ fh_T := fh_Tin 370 (by decide +kernel) rfl
set_option maxRecDepth 100000 in
theorem q_371 : (Cond.instanceMethod ({ cls := "FollowedHours", name := "ahead", desc := "(II)I" } : Jvm.MethodName)) ∈ fh_T := fh_Tin 371 (by decide +kernel) rfl
set_option maxRecDepth 100000 in
theorem q_372 : (Cond.selects "FollowedHours" ({ cls := "FollowedHours", name := "ahead", desc := "(II)I" } : Jvm.MethodName) ({ cls := "FollowedHours", name := "ahead", desc := "(II)I" } : Jvm.MethodName)) ∈ fh_T := fh_Tin 372 (by decide +kernel) rfl
set_option maxRecDepth 100000 in
theorem q_373 : (Cond.code ({ cls := "FollowedHours", name := "ahead", desc := "(II)I" } : Jvm.MethodName) prog_1_method_15_code (3 : Nat) (Option.some Jvm.ClassFile.FieldType.int)) ∈ fh_T := fh_Tin 373 (by decide +kernel) rfl
set_option maxRecDepth 100000 in
theorem q_385 : (Cond.methodLink "FollowedHoursLaw" (73 : Nat) ({ cls := "FollowedHours", name := "going", desc := "(II)I" } : Jvm.MethodName)) ∈ fh_T := fh_Tin 385 (by decide +kernel) rfl
set_option maxRecDepth 100000 in
theorem q_386 : (Cond.instanceMethod ({ cls := "FollowedHours", name := "going", desc := "(II)I" } : Jvm.MethodName)) ∈ fh_T := fh_Tin 386 (by decide +kernel) rfl
set_option maxRecDepth 100000 in
theorem q_387 : (Cond.selects "FollowedHours" ({ cls := "FollowedHours", name := "going", desc := "(II)I" } : Jvm.MethodName) ({ cls := "FollowedHours", name := "going", desc := "(II)I" } : Jvm.MethodName)) ∈ fh_T := fh_Tin 387 (by decide +kernel) rfl
set_option maxRecDepth 100000 in
theorem q_388 : (Cond.code ({ cls := "FollowedHours", name := "going", desc := "(II)I" } : Jvm.MethodName) prog_1_method_16_code (3 : Nat) (Option.some Jvm.ClassFile.FieldType.int)) ∈ fh_T := fh_Tin 388 (by decide +kernel) rfl
set_option maxRecDepth 100000 in
theorem q_389 : (Cond.methodLink "FollowedHoursLaw" (77 : Nat) ({ cls := "FollowedHours", name := "shows", desc := "(II)I" } : Jvm.MethodName)) ∈ fh_T := fh_Tin 389 (by decide +kernel) rfl
set_option maxRecDepth 100000 in
theorem q_390 : (Cond.instanceMethod ({ cls := "FollowedHours", name := "shows", desc := "(II)I" } : Jvm.MethodName)) ∈ fh_T := fh_Tin 390 (by decide +kernel) rfl
set_option maxRecDepth 100000 in
theorem q_391 : (Cond.selects "FollowedHours" ({ cls := "FollowedHours", name := "shows", desc := "(II)I" } : Jvm.MethodName) ({ cls := "FollowedHours", name := "shows", desc := "(II)I" } : Jvm.MethodName)) ∈ fh_T := fh_Tin 391 (by decide +kernel) rfl
set_option maxRecDepth 100000 in
theorem q_392 : (Cond.code ({ cls := "FollowedHours", name := "shows", desc := "(II)I" } : Jvm.MethodName) prog_1_method_17_code (4 : Nat) (Option.some Jvm.ClassFile.FieldType.int)) ∈ fh_T := fh_Tin 392 (by decide +kernel) rfl
set_option maxRecDepth 100000 in
theorem q_395 : (Cond.methodLink "FollowedHoursLaw" (81 : Nat) ({ cls := "FollowedHours", name := "meet", desc := "(II)I" } : Jvm.MethodName)) ∈ fh_T := fh_Tin 395 (by decide +kernel) rfl
set_option maxRecDepth 100000 in
theorem q_396 : (Cond.instanceMethod ({ cls := "FollowedHours", name := "meet", desc := "(II)I" } : Jvm.MethodName)) ∈ fh_T := fh_Tin 396 (by decide +kernel) rfl
set_option maxRecDepth 100000 in
theorem q_397 : (Cond.selects "FollowedHours" ({ cls := "FollowedHours", name := "meet", desc := "(II)I" } : Jvm.MethodName) ({ cls := "FollowedHours", name := "meet", desc := "(II)I" } : Jvm.MethodName)) ∈ fh_T := fh_Tin 397 (by decide +kernel) rfl
set_option maxRecDepth 100000 in
theorem q_398 : (Cond.code ({ cls := "FollowedHours", name := "meet", desc := "(II)I" } : Jvm.MethodName) prog_1_method_18_code (4 : Nat) (Option.some Jvm.ClassFile.FieldType.int)) ∈ fh_T := fh_Tin 398 (by decide +kernel) rfl
set_option maxRecDepth 100000 in
theorem q_399 : (Cond.methodLink "FollowedHoursLaw" (85 : Nat) ({ cls := "FollowedHours", name := "halts", desc := "(I)I" } : Jvm.MethodName)) ∈ fh_T := fh_Tin 399 (by decide +kernel) rfl
set_option maxRecDepth 100000 in
theorem q_400 : (Cond.instanceMethod ({ cls := "FollowedHours", name := "halts", desc := "(I)I" } : Jvm.MethodName)) ∈ fh_T := fh_Tin 400 (by decide +kernel) rfl
set_option maxRecDepth 100000 in
theorem q_401 : (Cond.selects "FollowedHours" ({ cls := "FollowedHours", name := "halts", desc := "(I)I" } : Jvm.MethodName) ({ cls := "FollowedHours", name := "halts", desc := "(I)I" } : Jvm.MethodName)) ∈ fh_T := fh_Tin 401 (by decide +kernel) rfl
set_option maxRecDepth 100000 in
theorem q_402 : (Cond.code ({ cls := "FollowedHours", name := "halts", desc := "(I)I" } : Jvm.MethodName) prog_1_method_19_code (3 : Nat) (Option.some Jvm.ClassFile.FieldType.int)) ∈ fh_T := fh_Tin 402 (by decide +kernel) rfl
set_option maxRecDepth 100000 in
theorem q_403 : (Cond.methodLink "FollowedHoursLaw" (89 : Nat) ({ cls := "FollowedHours", name := "settles", desc := "()I" } : Jvm.MethodName)) ∈ fh_T := fh_Tin 403 (by decide +kernel) rfl
set_option maxRecDepth 100000 in
theorem q_404 : (Cond.instanceMethod ({ cls := "FollowedHours", name := "settles", desc := "()I" } : Jvm.MethodName)) ∈ fh_T := fh_Tin 404 (by decide +kernel) rfl
set_option maxRecDepth 100000 in
theorem q_405 : (Cond.selects "FollowedHours" ({ cls := "FollowedHours", name := "settles", desc := "()I" } : Jvm.MethodName) ({ cls := "FollowedHours", name := "settles", desc := "()I" } : Jvm.MethodName)) ∈ fh_T := fh_Tin 405 (by decide +kernel) rfl
set_option maxRecDepth 100000 in
theorem q_406 : (Cond.code ({ cls := "FollowedHours", name := "settles", desc := "()I" } : Jvm.MethodName) prog_1_method_20_code (2 : Nat) (Option.some Jvm.ClassFile.FieldType.int)) ∈ fh_T := fh_Tin 406 (by decide +kernel) rfl
set_option maxRecDepth 100000 in
theorem q_415 : (Cond.methodLink "FollowedHoursLaw" (93 : Nat) ({ cls := "FollowedHours", name := "kindFor", desc := "(II)I" } : Jvm.MethodName)) ∈ fh_T := fh_Tin 415 (by decide +kernel) rfl
set_option maxRecDepth 100000 in
theorem q_416 : (Cond.instanceMethod ({ cls := "FollowedHours", name := "kindFor", desc := "(II)I" } : Jvm.MethodName)) ∈ fh_T := fh_Tin 416 (by decide +kernel) rfl
set_option maxRecDepth 100000 in
theorem q_417 : (Cond.selects "FollowedHours" ({ cls := "FollowedHours", name := "kindFor", desc := "(II)I" } : Jvm.MethodName) ({ cls := "FollowedHours", name := "kindFor", desc := "(II)I" } : Jvm.MethodName)) ∈ fh_T := fh_Tin 417 (by decide +kernel) rfl
set_option maxRecDepth 100000 in
theorem q_418 : (Cond.code ({ cls := "FollowedHours", name := "kindFor", desc := "(II)I" } : Jvm.MethodName) prog_1_method_21_code (7 : Nat) (Option.some Jvm.ClassFile.FieldType.int)) ∈ fh_T := fh_Tin 418 (by decide +kernel) rfl
set_option maxRecDepth 100000 in
theorem q_424 : (Cond.methodLink "FollowedHoursLaw" (97 : Nat) ({ cls := "FollowedHours", name := "jogFor", desc := "(III)I" } : Jvm.MethodName)) ∈ fh_T := fh_Tin 424 (by decide +kernel) rfl
set_option maxRecDepth 100000 in
theorem q_425 : (Cond.instanceMethod ({ cls := "FollowedHours", name := "jogFor", desc := "(III)I" } : Jvm.MethodName)) ∈ fh_T := fh_Tin 425 (by decide +kernel) rfl
set_option maxRecDepth 100000 in
theorem q_426 : (Cond.selects "FollowedHours" ({ cls := "FollowedHours", name := "jogFor", desc := "(III)I" } : Jvm.MethodName) ({ cls := "FollowedHours", name := "jogFor", desc := "(III)I" } : Jvm.MethodName)) ∈ fh_T := fh_Tin 426 (by decide +kernel) rfl
set_option maxRecDepth 100000 in
theorem q_427 : (Cond.code ({ cls := "FollowedHours", name := "jogFor", desc := "(III)I" } : Jvm.MethodName) prog_1_method_22_code (5 : Nat) (Option.some Jvm.ClassFile.FieldType.int)) ∈ fh_T := fh_Tin 427 (by decide +kernel) rfl
set_option maxRecDepth 100000 in
theorem q_429 : (Cond.methodLink "FollowedHoursLaw" (101 : Nat) ({ cls := "FollowedHours", name := "most", desc := "()I" } : Jvm.MethodName)) ∈ fh_T := fh_Tin 429 (by decide +kernel) rfl
set_option maxRecDepth 100000 in
theorem q_430 : (Cond.instanceMethod ({ cls := "FollowedHours", name := "most", desc := "()I" } : Jvm.MethodName)) ∈ fh_T := fh_Tin 430 (by decide +kernel) rfl
set_option maxRecDepth 100000 in
theorem q_431 : (Cond.selects "FollowedHours" ({ cls := "FollowedHours", name := "most", desc := "()I" } : Jvm.MethodName) ({ cls := "FollowedHours", name := "most", desc := "()I" } : Jvm.MethodName)) ∈ fh_T := fh_Tin 431 (by decide +kernel) rfl
set_option maxRecDepth 100000 in
theorem q_432 : (Cond.code ({ cls := "FollowedHours", name := "most", desc := "()I" } : Jvm.MethodName) prog_1_method_23_code (2 : Nat) (Option.some Jvm.ClassFile.FieldType.int)) ∈ fh_T := fh_Tin 432 (by decide +kernel) rfl
set_option maxRecDepth 100000 in
theorem q_434 : (Cond.methodLink "FollowedHoursLaw" (105 : Nat) ({ cls := "FollowedHours", name := "jogs", desc := "(I)I" } : Jvm.MethodName)) ∈ fh_T := fh_Tin 434 (by decide +kernel) rfl
set_option maxRecDepth 100000 in
theorem q_435 : (Cond.instanceMethod ({ cls := "FollowedHours", name := "jogs", desc := "(I)I" } : Jvm.MethodName)) ∈ fh_T := fh_Tin 435 (by decide +kernel) rfl
set_option maxRecDepth 100000 in
theorem q_436 : (Cond.selects "FollowedHours" ({ cls := "FollowedHours", name := "jogs", desc := "(I)I" } : Jvm.MethodName) ({ cls := "FollowedHours", name := "jogs", desc := "(I)I" } : Jvm.MethodName)) ∈ fh_T := fh_Tin 436 (by decide +kernel) rfl
set_option maxRecDepth 100000 in
theorem q_437 : (Cond.code ({ cls := "FollowedHours", name := "jogs", desc := "(I)I" } : Jvm.MethodName) prog_1_method_24_code (2 : Nat) (Option.some Jvm.ClassFile.FieldType.int)) ∈ fh_T := fh_Tin 437 (by decide +kernel) rfl
set_option maxRecDepth 100000 in
theorem q_438 : (Cond.methodLink "FollowedHoursLaw" (109 : Nat) ({ cls := "FollowedHours", name := "right", desc := "(I)I" } : Jvm.MethodName)) ∈ fh_T := fh_Tin 438 (by decide +kernel) rfl
set_option maxRecDepth 100000 in
theorem q_439 : (Cond.instanceMethod ({ cls := "FollowedHours", name := "right", desc := "(I)I" } : Jvm.MethodName)) ∈ fh_T := fh_Tin 439 (by decide +kernel) rfl
set_option maxRecDepth 100000 in
theorem q_440 : (Cond.selects "FollowedHours" ({ cls := "FollowedHours", name := "right", desc := "(I)I" } : Jvm.MethodName) ({ cls := "FollowedHours", name := "right", desc := "(I)I" } : Jvm.MethodName)) ∈ fh_T := fh_Tin 440 (by decide +kernel) rfl
set_option maxRecDepth 100000 in
theorem q_441 : (Cond.code ({ cls := "FollowedHours", name := "right", desc := "(I)I" } : Jvm.MethodName) prog_1_method_25_code (2 : Nat) (Option.some Jvm.ClassFile.FieldType.int)) ∈ fh_T := fh_Tin 441 (by decide +kernel) rfl
set_option maxRecDepth 100000 in
theorem q_442 : (Cond.methodLink "FollowedHoursLaw" (113 : Nat) ({ cls := "FollowedHours", name := "masters", desc := "(II)I" } : Jvm.MethodName)) ∈ fh_T := fh_Tin 442 (by decide +kernel) rfl
set_option maxRecDepth 100000 in
theorem q_443 : (Cond.instanceMethod ({ cls := "FollowedHours", name := "masters", desc := "(II)I" } : Jvm.MethodName)) ∈ fh_T := fh_Tin 443 (by decide +kernel) rfl
set_option maxRecDepth 100000 in
theorem q_444 : (Cond.selects "FollowedHours" ({ cls := "FollowedHours", name := "masters", desc := "(II)I" } : Jvm.MethodName) ({ cls := "FollowedHours", name := "masters", desc := "(II)I" } : Jvm.MethodName)) ∈ fh_T := fh_Tin 444 (by decide +kernel) rfl
set_option maxRecDepth 100000 in
theorem q_445 : (Cond.code ({ cls := "FollowedHours", name := "masters", desc := "(II)I" } : Jvm.MethodName) prog_1_method_26_code (6 : Nat) (Option.some Jvm.ClassFile.FieldType.int)) ∈ fh_T := fh_Tin 445 (by decide +kernel) rfl
set_option maxRecDepth 100000 in
theorem q_462 : (Cond.methodLink "FollowedHoursLaw" (117 : Nat) ({ cls := "FollowedHours", name := "kinds", desc := "(II)I" } : Jvm.MethodName)) ∈ fh_T := fh_Tin 462 (by decide +kernel) rfl
set_option maxRecDepth 100000 in
theorem q_463 : (Cond.instanceMethod ({ cls := "FollowedHours", name := "kinds", desc := "(II)I" } : Jvm.MethodName)) ∈ fh_T := fh_Tin 463 (by decide +kernel) rfl
set_option maxRecDepth 100000 in
theorem q_464 : (Cond.selects "FollowedHours" ({ cls := "FollowedHours", name := "kinds", desc := "(II)I" } : Jvm.MethodName) ({ cls := "FollowedHours", name := "kinds", desc := "(II)I" } : Jvm.MethodName)) ∈ fh_T := fh_Tin 464 (by decide +kernel) rfl
set_option maxRecDepth 100000 in
theorem q_465 : (Cond.code ({ cls := "FollowedHours", name := "kinds", desc := "(II)I" } : Jvm.MethodName) prog_1_method_27_code (6 : Nat) (Option.some Jvm.ClassFile.FieldType.int)) ∈ fh_T := fh_Tin 465 (by decide +kernel) rfl
set_option maxRecDepth 100000 in
theorem q_466 : (Cond.methodLink "FollowedHoursLaw" (121 : Nat) ({ cls := "FollowedHours", name := "masterFor", desc := "(III)I" } : Jvm.MethodName)) ∈ fh_T := fh_Tin 466 (by decide +kernel) rfl
set_option maxRecDepth 100000 in
theorem q_467 : (Cond.instanceMethod ({ cls := "FollowedHours", name := "masterFor", desc := "(III)I" } : Jvm.MethodName)) ∈ fh_T := fh_Tin 467 (by decide +kernel) rfl
set_option maxRecDepth 100000 in
theorem q_468 : (Cond.selects "FollowedHours" ({ cls := "FollowedHours", name := "masterFor", desc := "(III)I" } : Jvm.MethodName) ({ cls := "FollowedHours", name := "masterFor", desc := "(III)I" } : Jvm.MethodName)) ∈ fh_T := fh_Tin 468 (by decide +kernel) rfl
set_option maxRecDepth 100000 in
theorem q_469 : (Cond.code ({ cls := "FollowedHours", name := "masterFor", desc := "(III)I" } : Jvm.MethodName) prog_1_method_28_code (8 : Nat) (Option.some Jvm.ClassFile.FieldType.int)) ∈ fh_T := fh_Tin 469 (by decide +kernel) rfl
set_option maxRecDepth 100000 in
theorem q_474 : (Cond.methodLink "FollowedHoursLaw" (125 : Nat) ({ cls := "FollowedHours", name := "halted", desc := "(II)I" } : Jvm.MethodName)) ∈ fh_T := fh_Tin 474 (by decide +kernel) rfl
set_option maxRecDepth 100000 in
theorem q_475 : (Cond.instanceMethod ({ cls := "FollowedHours", name := "halted", desc := "(II)I" } : Jvm.MethodName)) ∈ fh_T := fh_Tin 475 (by decide +kernel) rfl
set_option maxRecDepth 100000 in
theorem q_476 : (Cond.selects "FollowedHours" ({ cls := "FollowedHours", name := "halted", desc := "(II)I" } : Jvm.MethodName) ({ cls := "FollowedHours", name := "halted", desc := "(II)I" } : Jvm.MethodName)) ∈ fh_T := fh_Tin 476 (by decide +kernel) rfl
set_option maxRecDepth 100000 in
theorem q_477 : (Cond.code ({ cls := "FollowedHours", name := "halted", desc := "(II)I" } : Jvm.MethodName) prog_1_method_29_code (3 : Nat) (Option.some Jvm.ClassFile.FieldType.int)) ∈ fh_T := fh_Tin 477 (by decide +kernel) rfl
set_option maxRecDepth 100000 in
theorem q_489 : (Cond.methodLink "FollowedHoursLaw" (129 : Nat) ({ cls := "FollowedHours", name := "weakest", desc := "(I)I" } : Jvm.MethodName)) ∈ fh_T := fh_Tin 489 (by decide +kernel) rfl
set_option maxRecDepth 100000 in
theorem q_490 : (Cond.instanceMethod ({ cls := "FollowedHours", name := "weakest", desc := "(I)I" } : Jvm.MethodName)) ∈ fh_T := fh_Tin 490 (by decide +kernel) rfl
set_option maxRecDepth 100000 in
theorem q_491 : (Cond.selects "FollowedHours" ({ cls := "FollowedHours", name := "weakest", desc := "(I)I" } : Jvm.MethodName) ({ cls := "FollowedHours", name := "weakest", desc := "(I)I" } : Jvm.MethodName)) ∈ fh_T := fh_Tin 491 (by decide +kernel) rfl
set_option maxRecDepth 100000 in
theorem q_492 : (Cond.code ({ cls := "FollowedHours", name := "weakest", desc := "(I)I" } : Jvm.MethodName) prog_1_method_30_code (6 : Nat) (Option.some Jvm.ClassFile.FieldType.int)) ∈ fh_T := fh_Tin 492 (by decide +kernel) rfl
set_option maxRecDepth 100000 in
theorem q_493 : (Cond.methodLink "FollowedHoursLaw" (133 : Nat) ({ cls := "FollowedHours", name := "cut", desc := "(I)I" } : Jvm.MethodName)) ∈ fh_T := fh_Tin 493 (by decide +kernel) rfl
set_option maxRecDepth 100000 in
theorem q_494 : (Cond.instanceMethod ({ cls := "FollowedHours", name := "cut", desc := "(I)I" } : Jvm.MethodName)) ∈ fh_T := fh_Tin 494 (by decide +kernel) rfl
set_option maxRecDepth 100000 in
theorem q_495 : (Cond.selects "FollowedHours" ({ cls := "FollowedHours", name := "cut", desc := "(I)I" } : Jvm.MethodName) ({ cls := "FollowedHours", name := "cut", desc := "(I)I" } : Jvm.MethodName)) ∈ fh_T := fh_Tin 495 (by decide +kernel) rfl
set_option maxRecDepth 100000 in
theorem q_496 : (Cond.code ({ cls := "FollowedHours", name := "cut", desc := "(I)I" } : Jvm.MethodName) prog_1_method_31_code (7 : Nat) (Option.some Jvm.ClassFile.FieldType.int)) ∈ fh_T := fh_Tin 496 (by decide +kernel) rfl
set_option maxRecDepth 100000 in
theorem q_497 : (Cond.methodLink "FollowedHoursLaw" (137 : Nat) ({ cls := "FollowedHours", name := "frosts", desc := "(I)I" } : Jvm.MethodName)) ∈ fh_T := fh_Tin 497 (by decide +kernel) rfl
set_option maxRecDepth 100000 in
theorem q_498 : (Cond.instanceMethod ({ cls := "FollowedHours", name := "frosts", desc := "(I)I" } : Jvm.MethodName)) ∈ fh_T := fh_Tin 498 (by decide +kernel) rfl
set_option maxRecDepth 100000 in
theorem q_499 : (Cond.selects "FollowedHours" ({ cls := "FollowedHours", name := "frosts", desc := "(I)I" } : Jvm.MethodName) ({ cls := "FollowedHours", name := "frosts", desc := "(I)I" } : Jvm.MethodName)) ∈ fh_T := fh_Tin 499 (by decide +kernel) rfl
set_option maxRecDepth 100000 in
theorem q_500 : (Cond.code ({ cls := "FollowedHours", name := "frosts", desc := "(I)I" } : Jvm.MethodName) prog_1_method_32_code (4 : Nat) (Option.some Jvm.ClassFile.FieldType.int)) ∈ fh_T := fh_Tin 500 (by decide +kernel) rfl
set_option maxRecDepth 100000 in
theorem q_506 : (Cond.methodLink "FollowedHoursLaw" (141 : Nat) ({ cls := "FollowedHours", name := "odds", desc := "(II)J" } : Jvm.MethodName)) ∈ fh_T := fh_Tin 506 (by decide +kernel) rfl
set_option maxRecDepth 100000 in
theorem q_507 : (Cond.instanceMethod ({ cls := "FollowedHours", name := "odds", desc := "(II)J" } : Jvm.MethodName)) ∈ fh_T := fh_Tin 507 (by decide +kernel) rfl
set_option maxRecDepth 100000 in
theorem q_508 : (Cond.selects "FollowedHours" ({ cls := "FollowedHours", name := "odds", desc := "(II)J" } : Jvm.MethodName) ({ cls := "FollowedHours", name := "odds", desc := "(II)J" } : Jvm.MethodName)) ∈ fh_T := fh_Tin 508 (by decide +kernel) rfl
set_option maxRecDepth 100000 in
theorem q_509 : (Cond.code ({ cls := "FollowedHours", name := "odds", desc := "(II)J" } : Jvm.MethodName) prog_1_method_33_code (7 : Nat) (Option.some Jvm.ClassFile.FieldType.long)) ∈ fh_T := fh_Tin 509 (by decide +kernel) rfl
set_option maxRecDepth 100000 in
theorem q_510 : (Cond.methodLink "FollowedHoursLaw" (146 : Nat) ({ cls := "FollowedHours", name := "seed", desc := "(I)I" } : Jvm.MethodName)) ∈ fh_T := fh_Tin 510 (by decide +kernel) rfl
set_option maxRecDepth 100000 in
theorem q_511 : (Cond.instanceMethod ({ cls := "FollowedHours", name := "seed", desc := "(I)I" } : Jvm.MethodName)) ∈ fh_T := fh_Tin 511 (by decide +kernel) rfl
set_option maxRecDepth 100000 in
theorem q_512 : (Cond.selects "FollowedHours" ({ cls := "FollowedHours", name := "seed", desc := "(I)I" } : Jvm.MethodName) ({ cls := "FollowedHours", name := "seed", desc := "(I)I" } : Jvm.MethodName)) ∈ fh_T := fh_Tin 512 (by decide +kernel) rfl
set_option maxRecDepth 100000 in
theorem q_513 : (Cond.code ({ cls := "FollowedHours", name := "seed", desc := "(I)I" } : Jvm.MethodName) prog_1_method_34_code (3 : Nat) (Option.some Jvm.ClassFile.FieldType.int)) ∈ fh_T := fh_Tin 513 (by decide +kernel) rfl
set_option maxRecDepth 100000 in
theorem q_514 : (Cond.methodLink "FollowedHoursLaw" (150 : Nat) ({ cls := "FollowedHours", name := "feed", desc := "(II)I" } : Jvm.MethodName)) ∈ fh_T := fh_Tin 514 (by decide +kernel) rfl
set_option maxRecDepth 100000 in
theorem q_515 : (Cond.instanceMethod ({ cls := "FollowedHours", name := "feed", desc := "(II)I" } : Jvm.MethodName)) ∈ fh_T := fh_Tin 515 (by decide +kernel) rfl
set_option maxRecDepth 100000 in
theorem q_516 : (Cond.selects "FollowedHours" ({ cls := "FollowedHours", name := "feed", desc := "(II)I" } : Jvm.MethodName) ({ cls := "FollowedHours", name := "feed", desc := "(II)I" } : Jvm.MethodName)) ∈ fh_T := fh_Tin 516 (by decide +kernel) rfl
set_option maxRecDepth 100000 in
theorem q_517 : (Cond.code ({ cls := "FollowedHours", name := "feed", desc := "(II)I" } : Jvm.MethodName) prog_1_method_35_code (4 : Nat) (Option.some Jvm.ClassFile.FieldType.int)) ∈ fh_T := fh_Tin 517 (by decide +kernel) rfl
set_option maxRecDepth 100000 in
theorem q_522 : (Cond.methodLink "FollowedHoursLaw" (154 : Nat) ({ cls := "FollowedHours", name := "wipe", desc := "()I" } : Jvm.MethodName)) ∈ fh_T := fh_Tin 522 (by decide +kernel) rfl
set_option maxRecDepth 100000 in
theorem q_523 : (Cond.instanceMethod ({ cls := "FollowedHours", name := "wipe", desc := "()I" } : Jvm.MethodName)) ∈ fh_T := fh_Tin 523 (by decide +kernel) rfl
set_option maxRecDepth 100000 in
theorem q_524 : (Cond.selects "FollowedHours" ({ cls := "FollowedHours", name := "wipe", desc := "()I" } : Jvm.MethodName) ({ cls := "FollowedHours", name := "wipe", desc := "()I" } : Jvm.MethodName)) ∈ fh_T := fh_Tin 524 (by decide +kernel) rfl
set_option maxRecDepth 100000 in
theorem q_525 : (Cond.code ({ cls := "FollowedHours", name := "wipe", desc := "()I" } : Jvm.MethodName) prog_1_method_36_code (2 : Nat) (Option.some Jvm.ClassFile.FieldType.int)) ∈ fh_T := fh_Tin 525 (by decide +kernel) rfl
set_option maxRecDepth 100000 in
theorem q_526 : (Cond.methodLink "FollowedHoursLaw" (158 : Nat) ({ cls := "FollowedHours", name := "text", desc := "()I" } : Jvm.MethodName)) ∈ fh_T := fh_Tin 526 (by decide +kernel) rfl
set_option maxRecDepth 100000 in
theorem q_527 : (Cond.instanceMethod ({ cls := "FollowedHours", name := "text", desc := "()I" } : Jvm.MethodName)) ∈ fh_T := fh_Tin 527 (by decide +kernel) rfl
set_option maxRecDepth 100000 in
theorem q_528 : (Cond.selects "FollowedHours" ({ cls := "FollowedHours", name := "text", desc := "()I" } : Jvm.MethodName) ({ cls := "FollowedHours", name := "text", desc := "()I" } : Jvm.MethodName)) ∈ fh_T := fh_Tin 528 (by decide +kernel) rfl
set_option maxRecDepth 100000 in
theorem q_529 : (Cond.code ({ cls := "FollowedHours", name := "text", desc := "()I" } : Jvm.MethodName) prog_1_method_37_code (2 : Nat) (Option.some Jvm.ClassFile.FieldType.int)) ∈ fh_T := fh_Tin 529 (by decide +kernel) rfl
set_option maxRecDepth 100000 in
theorem q_658 : (Cond.methodLink "FollowedHoursLaw" (162 : Nat) ({ cls := "FollowedHours", name := "hold", desc := "(II)I" } : Jvm.MethodName)) ∈ fh_T := fh_Tin 658 (by decide +kernel) rfl
set_option maxRecDepth 100000 in
theorem q_659 : (Cond.instanceMethod ({ cls := "FollowedHours", name := "hold", desc := "(II)I" } : Jvm.MethodName)) ∈ fh_T := fh_Tin 659 (by decide +kernel) rfl
set_option maxRecDepth 100000 in
theorem q_660 : (Cond.selects "FollowedHours" ({ cls := "FollowedHours", name := "hold", desc := "(II)I" } : Jvm.MethodName) ({ cls := "FollowedHours", name := "hold", desc := "(II)I" } : Jvm.MethodName)) ∈ fh_T := fh_Tin 660 (by decide +kernel) rfl
set_option maxRecDepth 100000 in
theorem q_661 : (Cond.code ({ cls := "FollowedHours", name := "hold", desc := "(II)I" } : Jvm.MethodName) prog_1_method_38_code (3 : Nat) (Option.some Jvm.ClassFile.FieldType.int)) ∈ fh_T := fh_Tin 661 (by decide +kernel) rfl
set_option maxRecDepth 100000 in
theorem q_665 : (Cond.methodLink "FollowedHoursLaw" (166 : Nat) ({ cls := "FollowedHours", name := "as", desc := "(II)I" } : Jvm.MethodName)) ∈ fh_T := fh_Tin 665 (by decide +kernel) rfl
set_option maxRecDepth 100000 in
theorem q_666 : (Cond.instanceMethod ({ cls := "FollowedHours", name := "as", desc := "(II)I" } : Jvm.MethodName)) ∈ fh_T := fh_Tin 666 (by decide +kernel) rfl
set_option maxRecDepth 100000 in
theorem q_667 : (Cond.selects "FollowedHours" ({ cls := "FollowedHours", name := "as", desc := "(II)I" } : Jvm.MethodName) ({ cls := "FollowedHours", name := "as", desc := "(II)I" } : Jvm.MethodName)) ∈ fh_T := fh_Tin 667 (by decide +kernel) rfl
set_option maxRecDepth 100000 in
theorem q_668 : (Cond.code ({ cls := "FollowedHours", name := "as", desc := "(II)I" } : Jvm.MethodName) prog_1_method_39_code (4 : Nat) (Option.some Jvm.ClassFile.FieldType.int)) ∈ fh_T := fh_Tin 668 (by decide +kernel) rfl
set_option maxRecDepth 100000 in
theorem q_673 : (Cond.methodLink "FollowedHoursLaw" (170 : Nat) ({ cls := "FollowedHours", name := "sheet", desc := "(III)I" } : Jvm.MethodName)) ∈ fh_T := fh_Tin 673 (by decide +kernel) rfl
set_option maxRecDepth 100000 in
theorem q_674 : (Cond.instanceMethod ({ cls := "FollowedHours", name := "sheet", desc := "(III)I" } : Jvm.MethodName)) ∈ fh_T := fh_Tin 674 (by decide +kernel) rfl
set_option maxRecDepth 100000 in
theorem q_675 : (Cond.selects "FollowedHours" ({ cls := "FollowedHours", name := "sheet", desc := "(III)I" } : Jvm.MethodName) ({ cls := "FollowedHours", name := "sheet", desc := "(III)I" } : Jvm.MethodName)) ∈ fh_T := fh_Tin 675 (by decide +kernel) rfl
set_option maxRecDepth 100000 in
theorem q_676 : (Cond.code ({ cls := "FollowedHours", name := "sheet", desc := "(III)I" } : Jvm.MethodName) prog_1_method_40_code (5 : Nat) (Option.some Jvm.ClassFile.FieldType.int)) ∈ fh_T := fh_Tin 676 (by decide +kernel) rfl
set_option maxRecDepth 100000 in
theorem q_682 : (Cond.methodLink "FollowedHoursLaw" (174 : Nat) ({ cls := "FollowedHours", name := "write", desc := "(III)I" } : Jvm.MethodName)) ∈ fh_T := fh_Tin 682 (by decide +kernel) rfl
set_option maxRecDepth 100000 in
theorem q_683 : (Cond.instanceMethod ({ cls := "FollowedHours", name := "write", desc := "(III)I" } : Jvm.MethodName)) ∈ fh_T := fh_Tin 683 (by decide +kernel) rfl
set_option maxRecDepth 100000 in
theorem q_684 : (Cond.selects "FollowedHours" ({ cls := "FollowedHours", name := "write", desc := "(III)I" } : Jvm.MethodName) ({ cls := "FollowedHours", name := "write", desc := "(III)I" } : Jvm.MethodName)) ∈ fh_T := fh_Tin 684 (by decide +kernel) rfl
set_option maxRecDepth 100000 in
theorem q_685 : (Cond.code ({ cls := "FollowedHours", name := "write", desc := "(III)I" } : Jvm.MethodName) prog_1_method_41_code (5 : Nat) (Option.some Jvm.ClassFile.FieldType.int)) ∈ fh_T := fh_Tin 685 (by decide +kernel) rfl
set_option maxRecDepth 100000 in
theorem q_690 : (Cond.methodLink "FollowedHoursLaw" (178 : Nat) ({ cls := "FollowedHours", name := "copy", desc := "(IIIII)I" } : Jvm.MethodName)) ∈ fh_T := fh_Tin 690 (by decide +kernel) rfl
set_option maxRecDepth 100000 in
theorem q_691 : (Cond.instanceMethod ({ cls := "FollowedHours", name := "copy", desc := "(IIIII)I" } : Jvm.MethodName)) ∈ fh_T := fh_Tin 691 (by decide +kernel) rfl
set_option maxRecDepth 100000 in
theorem q_692 : (Cond.selects "FollowedHours" ({ cls := "FollowedHours", name := "copy", desc := "(IIIII)I" } : Jvm.MethodName) ({ cls := "FollowedHours", name := "copy", desc := "(IIIII)I" } : Jvm.MethodName)) ∈ fh_T := fh_Tin 692 (by decide +kernel) rfl
set_option maxRecDepth 100000 in
theorem q_693 : (Cond.code ({ cls := "FollowedHours", name := "copy", desc := "(IIIII)I" } : Jvm.MethodName) prog_1_method_42_code (8 : Nat) (Option.some Jvm.ClassFile.FieldType.int)) ∈ fh_T := fh_Tin 693 (by decide +kernel) rfl
set_option maxRecDepth 100000 in
theorem q_699 : (Cond.methodLink "FollowedHoursLaw" (183 : Nat) ({ cls := "FollowedHours", name := "load", desc := "(I)I" } : Jvm.MethodName)) ∈ fh_T := fh_Tin 699 (by decide +kernel) rfl
set_option maxRecDepth 100000 in
theorem q_700 : (Cond.instanceMethod ({ cls := "FollowedHours", name := "load", desc := "(I)I" } : Jvm.MethodName)) ∈ fh_T := fh_Tin 700 (by decide +kernel) rfl
set_option maxRecDepth 100000 in
theorem q_701 : (Cond.selects "FollowedHours" ({ cls := "FollowedHours", name := "load", desc := "(I)I" } : Jvm.MethodName) ({ cls := "FollowedHours", name := "load", desc := "(I)I" } : Jvm.MethodName)) ∈ fh_T := fh_Tin 701 (by decide +kernel) rfl
set_option maxRecDepth 100000 in
theorem q_702 : (Cond.code ({ cls := "FollowedHours", name := "load", desc := "(I)I" } : Jvm.MethodName) prog_1_method_43_code (5 : Nat) (Option.some Jvm.ClassFile.FieldType.int)) ∈ fh_T := fh_Tin 702 (by decide +kernel) rfl
set_option maxRecDepth 100000 in
theorem q_703 : (Cond.methodLink "FollowedHoursLaw" (187 : Nat) ({ cls := "FollowedHours", name := "judge", desc := "(I)I" } : Jvm.MethodName)) ∈ fh_T := fh_Tin 703 (by decide +kernel) rfl
set_option maxRecDepth 100000 in
theorem q_704 : (Cond.instanceMethod ({ cls := "FollowedHours", name := "judge", desc := "(I)I" } : Jvm.MethodName)) ∈ fh_T := fh_Tin 704 (by decide +kernel) rfl
set_option maxRecDepth 100000 in
theorem q_705 : (Cond.selects "FollowedHours" ({ cls := "FollowedHours", name := "judge", desc := "(I)I" } : Jvm.MethodName) ({ cls := "FollowedHours", name := "judge", desc := "(I)I" } : Jvm.MethodName)) ∈ fh_T := fh_Tin 705 (by decide +kernel) rfl
set_option maxRecDepth 100000 in
theorem q_706 : (Cond.code ({ cls := "FollowedHours", name := "judge", desc := "(I)I" } : Jvm.MethodName) prog_1_method_44_code (7 : Nat) (Option.some Jvm.ClassFile.FieldType.int)) ∈ fh_T := fh_Tin 706 (by decide +kernel) rfl
set_option maxRecDepth 100000 in
theorem q_707 : (Cond.methodLink "FollowedHoursLaw" (191 : Nat) ({ cls := "FollowedHours", name := "image", desc := "()I" } : Jvm.MethodName)) ∈ fh_T := fh_Tin 707 (by decide +kernel) rfl
set_option maxRecDepth 100000 in
theorem q_708 : (Cond.instanceMethod ({ cls := "FollowedHours", name := "image", desc := "()I" } : Jvm.MethodName)) ∈ fh_T := fh_Tin 708 (by decide +kernel) rfl
set_option maxRecDepth 100000 in
theorem q_709 : (Cond.selects "FollowedHours" ({ cls := "FollowedHours", name := "image", desc := "()I" } : Jvm.MethodName) ({ cls := "FollowedHours", name := "image", desc := "()I" } : Jvm.MethodName)) ∈ fh_T := fh_Tin 709 (by decide +kernel) rfl
set_option maxRecDepth 100000 in
theorem q_710 : (Cond.code ({ cls := "FollowedHours", name := "image", desc := "()I" } : Jvm.MethodName) prog_1_method_45_code (1 : Nat) (Option.some Jvm.ClassFile.FieldType.int)) ∈ fh_T := fh_Tin 710 (by decide +kernel) rfl
set_option maxRecDepth 100000 in
theorem q_711 : (Cond.methodLink "FollowedHoursLaw" (195 : Nat) ({ cls := "FollowedHours", name := "undo", desc := "()I" } : Jvm.MethodName)) ∈ fh_T := fh_Tin 711 (by decide +kernel) rfl
set_option maxRecDepth 100000 in
theorem q_712 : (Cond.instanceMethod ({ cls := "FollowedHours", name := "undo", desc := "()I" } : Jvm.MethodName)) ∈ fh_T := fh_Tin 712 (by decide +kernel) rfl
set_option maxRecDepth 100000 in
theorem q_713 : (Cond.selects "FollowedHours" ({ cls := "FollowedHours", name := "undo", desc := "()I" } : Jvm.MethodName) ({ cls := "FollowedHours", name := "undo", desc := "()I" } : Jvm.MethodName)) ∈ fh_T := fh_Tin 713 (by decide +kernel) rfl
set_option maxRecDepth 100000 in
theorem q_714 : (Cond.code ({ cls := "FollowedHours", name := "undo", desc := "()I" } : Jvm.MethodName) prog_1_method_46_code (1 : Nat) (Option.some Jvm.ClassFile.FieldType.int)) ∈ fh_T := fh_Tin 714 (by decide +kernel) rfl
set_option maxRecDepth 100000 in
theorem q_715 : (Cond.methodLink "FollowedHoursLaw" (199 : Nat) ({ cls := "FollowedHours", name := "tear", desc := "()I" } : Jvm.MethodName)) ∈ fh_T := fh_Tin 715 (by decide +kernel) rfl
set_option maxRecDepth 100000 in
theorem q_716 : (Cond.instanceMethod ({ cls := "FollowedHours", name := "tear", desc := "()I" } : Jvm.MethodName)) ∈ fh_T := fh_Tin 716 (by decide +kernel) rfl
set_option maxRecDepth 100000 in
theorem q_717 : (Cond.selects "FollowedHours" ({ cls := "FollowedHours", name := "tear", desc := "()I" } : Jvm.MethodName) ({ cls := "FollowedHours", name := "tear", desc := "()I" } : Jvm.MethodName)) ∈ fh_T := fh_Tin 717 (by decide +kernel) rfl
set_option maxRecDepth 100000 in
theorem q_718 : (Cond.code ({ cls := "FollowedHours", name := "tear", desc := "()I" } : Jvm.MethodName) prog_1_method_47_code (2 : Nat) (Option.some Jvm.ClassFile.FieldType.int)) ∈ fh_T := fh_Tin 718 (by decide +kernel) rfl
set_option maxRecDepth 100000 in
theorem q_719 : (Cond.methodLink "FollowedHoursLaw" (203 : Nat) ({ cls := "FollowedHours", name := "count", desc := "(I)I" } : Jvm.MethodName)) ∈ fh_T := fh_Tin 719 (by decide +kernel) rfl
set_option maxRecDepth 100000 in
theorem q_720 : (Cond.instanceMethod ({ cls := "FollowedHours", name := "count", desc := "(I)I" } : Jvm.MethodName)) ∈ fh_T := fh_Tin 720 (by decide +kernel) rfl
set_option maxRecDepth 100000 in
theorem q_721 : (Cond.selects "FollowedHours" ({ cls := "FollowedHours", name := "count", desc := "(I)I" } : Jvm.MethodName) ({ cls := "FollowedHours", name := "count", desc := "(I)I" } : Jvm.MethodName)) ∈ fh_T := fh_Tin 721 (by decide +kernel) rfl
set_option maxRecDepth 100000 in
theorem q_722 : (Cond.code ({ cls := "FollowedHours", name := "count", desc := "(I)I" } : Jvm.MethodName) prog_1_method_48_code (2 : Nat) (Option.some Jvm.ClassFile.FieldType.int)) ∈ fh_T := fh_Tin 722 (by decide +kernel) rfl
set_option maxRecDepth 100000 in
theorem q_727 : (Cond.methodLink "FollowedHoursLaw" (207 : Nat) ({ cls := "FollowedHours", name := "status", desc := "(I)I" } : Jvm.MethodName)) ∈ fh_T := fh_Tin 727 (by decide +kernel) rfl
set_option maxRecDepth 100000 in
theorem q_728 : (Cond.instanceMethod ({ cls := "FollowedHours", name := "status", desc := "(I)I" } : Jvm.MethodName)) ∈ fh_T := fh_Tin 728 (by decide +kernel) rfl
set_option maxRecDepth 100000 in
theorem q_729 : (Cond.selects "FollowedHours" ({ cls := "FollowedHours", name := "status", desc := "(I)I" } : Jvm.MethodName) ({ cls := "FollowedHours", name := "status", desc := "(I)I" } : Jvm.MethodName)) ∈ fh_T := fh_Tin 729 (by decide +kernel) rfl
set_option maxRecDepth 100000 in
theorem q_730 : (Cond.code ({ cls := "FollowedHours", name := "status", desc := "(I)I" } : Jvm.MethodName) prog_1_method_49_code (7 : Nat) (Option.some Jvm.ClassFile.FieldType.int)) ∈ fh_T := fh_Tin 730 (by decide +kernel) rfl
set_option maxRecDepth 100000 in
theorem q_810 : (Cond.methodLink "FollowedHoursLaw" (17 : Nat) ({ cls := "FollowedHoursModel", name := "dial", desc := "(I)I" } : Jvm.MethodName)) ∈ fh_T := fh_Tin 810 (by decide +kernel) rfl
set_option maxRecDepth 100000 in
theorem q_811 : (Cond.instanceMethod ({ cls := "FollowedHoursModel", name := "dial", desc := "(I)I" } : Jvm.MethodName)) ∈ fh_T := fh_Tin 811 (by decide +kernel) rfl
set_option maxRecDepth 100000 in
theorem q_812 : (Cond.selects "FollowedHoursModel" ({ cls := "FollowedHoursModel", name := "dial", desc := "(I)I" } : Jvm.MethodName) ({ cls := "FollowedHoursModel", name := "dial", desc := "(I)I" } : Jvm.MethodName)) ∈ fh_T := fh_Tin 812 (by decide +kernel) rfl
set_option maxRecDepth 100000 in
theorem q_813 : (Cond.code ({ cls := "FollowedHoursModel", name := "dial", desc := "(I)I" } : Jvm.MethodName) prog_7_method_17_code (2 : Nat) (Option.some Jvm.ClassFile.FieldType.int)) ∈ fh_T := fh_Tin 813 (by decide +kernel) rfl
set_option maxRecDepth 100000 in
theorem q_833 : (Cond.methodLink "FollowedHoursLaw" (22 : Nat) ({ cls := "FollowedHoursModel", name := "of", desc := "(II)I" } : Jvm.MethodName)) ∈ fh_T := fh_Tin 833 (by decide +kernel) rfl
set_option maxRecDepth 100000 in
theorem q_834 : (Cond.instanceMethod ({ cls := "FollowedHoursModel", name := "of", desc := "(II)I" } : Jvm.MethodName)) ∈ fh_T := fh_Tin 834 (by decide +kernel) rfl
set_option maxRecDepth 100000 in
theorem q_835 : (Cond.selects "FollowedHoursModel" ({ cls := "FollowedHoursModel", name := "of", desc := "(II)I" } : Jvm.MethodName) ({ cls := "FollowedHoursModel", name := "of", desc := "(II)I" } : Jvm.MethodName)) ∈ fh_T := fh_Tin 835 (by decide +kernel) rfl
set_option maxRecDepth 100000 in
theorem q_836 : (Cond.code ({ cls := "FollowedHoursModel", name := "of", desc := "(II)I" } : Jvm.MethodName) prog_7_method_23_code (3 : Nat) (Option.some Jvm.ClassFile.FieldType.int)) ∈ fh_T := fh_Tin 836 (by decide +kernel) rfl
set_option maxRecDepth 100000 in
theorem q_862 : (Cond.methodLink "FollowedHoursLaw" (27 : Nat) ({ cls := "FollowedHoursModel", name := "change", desc := "(III)I" } : Jvm.MethodName)) ∈ fh_T := fh_Tin 862 (by decide +kernel) rfl
set_option maxRecDepth 100000 in
theorem q_863 : (Cond.instanceMethod ({ cls := "FollowedHoursModel", name := "change", desc := "(III)I" } : Jvm.MethodName)) ∈ fh_T := fh_Tin 863 (by decide +kernel) rfl
set_option maxRecDepth 100000 in
theorem q_864 : (Cond.selects "FollowedHoursModel" ({ cls := "FollowedHoursModel", name := "change", desc := "(III)I" } : Jvm.MethodName) ({ cls := "FollowedHoursModel", name := "change", desc := "(III)I" } : Jvm.MethodName)) ∈ fh_T := fh_Tin 864 (by decide +kernel) rfl
set_option maxRecDepth 100000 in
theorem q_865 : (Cond.code ({ cls := "FollowedHoursModel", name := "change", desc := "(III)I" } : Jvm.MethodName) prog_7_method_25_code (4 : Nat) (Option.some Jvm.ClassFile.FieldType.int)) ∈ fh_T := fh_Tin 865 (by decide +kernel) rfl
set_option maxRecDepth 100000 in
theorem q_877 : (Cond.methodLink "FollowedHoursLaw" (31 : Nat) ({ cls := "FollowedHoursModel", name := "jog", desc := "(II)I" } : Jvm.MethodName)) ∈ fh_T := fh_Tin 877 (by decide +kernel) rfl
set_option maxRecDepth 100000 in
theorem q_878 : (Cond.instanceMethod ({ cls := "FollowedHoursModel", name := "jog", desc := "(II)I" } : Jvm.MethodName)) ∈ fh_T := fh_Tin 878 (by decide +kernel) rfl
set_option maxRecDepth 100000 in
theorem q_879 : (Cond.selects "FollowedHoursModel" ({ cls := "FollowedHoursModel", name := "jog", desc := "(II)I" } : Jvm.MethodName) ({ cls := "FollowedHoursModel", name := "jog", desc := "(II)I" } : Jvm.MethodName)) ∈ fh_T := fh_Tin 879 (by decide +kernel) rfl
set_option maxRecDepth 100000 in
theorem q_880 : (Cond.code ({ cls := "FollowedHoursModel", name := "jog", desc := "(II)I" } : Jvm.MethodName) prog_7_method_27_code (3 : Nat) (Option.some Jvm.ClassFile.FieldType.int)) ∈ fh_T := fh_Tin 880 (by decide +kernel) rfl
set_option maxRecDepth 100000 in
theorem q_884 : (Cond.methodLink "FollowedHoursLaw" (35 : Nat) ({ cls := "FollowedHoursModel", name := "stop", desc := "(II)I" } : Jvm.MethodName)) ∈ fh_T := fh_Tin 884 (by decide +kernel) rfl
set_option maxRecDepth 100000 in
theorem q_885 : (Cond.instanceMethod ({ cls := "FollowedHoursModel", name := "stop", desc := "(II)I" } : Jvm.MethodName)) ∈ fh_T := fh_Tin 885 (by decide +kernel) rfl
set_option maxRecDepth 100000 in
theorem q_886 : (Cond.selects "FollowedHoursModel" ({ cls := "FollowedHoursModel", name := "stop", desc := "(II)I" } : Jvm.MethodName) ({ cls := "FollowedHoursModel", name := "stop", desc := "(II)I" } : Jvm.MethodName)) ∈ fh_T := fh_Tin 886 (by decide +kernel) rfl
set_option maxRecDepth 100000 in
theorem q_887 : (Cond.code ({ cls := "FollowedHoursModel", name := "stop", desc := "(II)I" } : Jvm.MethodName) prog_7_method_29_code (3 : Nat) (Option.some Jvm.ClassFile.FieldType.int)) ∈ fh_T := fh_Tin 887 (by decide +kernel) rfl
set_option maxRecDepth 100000 in
theorem q_892 : (Cond.methodLink "FollowedHoursLaw" (39 : Nat) ({ cls := "FollowedHoursModel", name := "go", desc := "(I)I" } : Jvm.MethodName)) ∈ fh_T := fh_Tin 892 (by decide +kernel) rfl
set_option maxRecDepth 100000 in
theorem q_893 : (Cond.instanceMethod ({ cls := "FollowedHoursModel", name := "go", desc := "(I)I" } : Jvm.MethodName)) ∈ fh_T := fh_Tin 893 (by decide +kernel) rfl
set_option maxRecDepth 100000 in
theorem q_894 : (Cond.selects "FollowedHoursModel" ({ cls := "FollowedHoursModel", name := "go", desc := "(I)I" } : Jvm.MethodName) ({ cls := "FollowedHoursModel", name := "go", desc := "(I)I" } : Jvm.MethodName)) ∈ fh_T := fh_Tin 894 (by decide +kernel) rfl
set_option maxRecDepth 100000 in
theorem q_895 : (Cond.code ({ cls := "FollowedHoursModel", name := "go", desc := "(I)I" } : Jvm.MethodName) prog_7_method_32_code (2 : Nat) (Option.some Jvm.ClassFile.FieldType.int)) ∈ fh_T := fh_Tin 895 (by decide +kernel) rfl
set_option maxRecDepth 100000 in
theorem q_906 : (Cond.methodLink "FollowedHoursLaw" (43 : Nat) ({ cls := "FollowedHoursModel", name := "now", desc := "(I)I" } : Jvm.MethodName)) ∈ fh_T := fh_Tin 906 (by decide +kernel) rfl
set_option maxRecDepth 100000 in
theorem q_907 : (Cond.instanceMethod ({ cls := "FollowedHoursModel", name := "now", desc := "(I)I" } : Jvm.MethodName)) ∈ fh_T := fh_Tin 907 (by decide +kernel) rfl
set_option maxRecDepth 100000 in
theorem q_908 : (Cond.selects "FollowedHoursModel" ({ cls := "FollowedHoursModel", name := "now", desc := "(I)I" } : Jvm.MethodName) ({ cls := "FollowedHoursModel", name := "now", desc := "(I)I" } : Jvm.MethodName)) ∈ fh_T := fh_Tin 908 (by decide +kernel) rfl
set_option maxRecDepth 100000 in
theorem q_909 : (Cond.code ({ cls := "FollowedHoursModel", name := "now", desc := "(I)I" } : Jvm.MethodName) prog_7_method_39_code (2 : Nat) (Option.some Jvm.ClassFile.FieldType.int)) ∈ fh_T := fh_Tin 909 (by decide +kernel) rfl
set_option maxRecDepth 100000 in
theorem q_937 : (Cond.methodLink "FollowedHoursLaw" (47 : Nat) ({ cls := "FollowedHoursModel", name := "way", desc := "(I)I" } : Jvm.MethodName)) ∈ fh_T := fh_Tin 937 (by decide +kernel) rfl
set_option maxRecDepth 100000 in
theorem q_938 : (Cond.instanceMethod ({ cls := "FollowedHoursModel", name := "way", desc := "(I)I" } : Jvm.MethodName)) ∈ fh_T := fh_Tin 938 (by decide +kernel) rfl
set_option maxRecDepth 100000 in
theorem q_939 : (Cond.selects "FollowedHoursModel" ({ cls := "FollowedHoursModel", name := "way", desc := "(I)I" } : Jvm.MethodName) ({ cls := "FollowedHoursModel", name := "way", desc := "(I)I" } : Jvm.MethodName)) ∈ fh_T := fh_Tin 939 (by decide +kernel) rfl
set_option maxRecDepth 100000 in
theorem q_940 : (Cond.code ({ cls := "FollowedHoursModel", name := "way", desc := "(I)I" } : Jvm.MethodName) prog_7_method_42_code (2 : Nat) (Option.some Jvm.ClassFile.FieldType.int)) ∈ fh_T := fh_Tin 940 (by decide +kernel) rfl
set_option maxRecDepth 100000 in
theorem q_948 : (Cond.methodLink "FollowedHoursLaw" (51 : Nat) ({ cls := "FollowedHoursModel", name := "ring", desc := "(I)I" } : Jvm.MethodName)) ∈ fh_T := fh_Tin 948 (by decide +kernel) rfl
set_option maxRecDepth 100000 in
theorem q_949 : (Cond.instanceMethod ({ cls := "FollowedHoursModel", name := "ring", desc := "(I)I" } : Jvm.MethodName)) ∈ fh_T := fh_Tin 949 (by decide +kernel) rfl
set_option maxRecDepth 100000 in
theorem q_950 : (Cond.selects "FollowedHoursModel" ({ cls := "FollowedHoursModel", name := "ring", desc := "(I)I" } : Jvm.MethodName) ({ cls := "FollowedHoursModel", name := "ring", desc := "(I)I" } : Jvm.MethodName)) ∈ fh_T := fh_Tin 950 (by decide +kernel) rfl
set_option maxRecDepth 100000 in
theorem q_951 : (Cond.code ({ cls := "FollowedHoursModel", name := "ring", desc := "(I)I" } : Jvm.MethodName) prog_7_method_43_code (2 : Nat) (Option.some Jvm.ClassFile.FieldType.int)) ∈ fh_T := fh_Tin 951 (by decide +kernel) rfl
set_option maxRecDepth 100000 in
theorem q_956 : (Cond.methodLink "FollowedHoursLaw" (56 : Nat) ({ cls := "FollowedHoursModel", name := "rings", desc := "()I" } : Jvm.MethodName)) ∈ fh_T := fh_Tin 956 (by decide +kernel) rfl
set_option maxRecDepth 100000 in
theorem q_957 : (Cond.instanceMethod ({ cls := "FollowedHoursModel", name := "rings", desc := "()I" } : Jvm.MethodName)) ∈ fh_T := fh_Tin 957 (by decide +kernel) rfl
set_option maxRecDepth 100000 in
theorem q_958 : (Cond.selects "FollowedHoursModel" ({ cls := "FollowedHoursModel", name := "rings", desc := "()I" } : Jvm.MethodName) ({ cls := "FollowedHoursModel", name := "rings", desc := "()I" } : Jvm.MethodName)) ∈ fh_T := fh_Tin 958 (by decide +kernel) rfl
set_option maxRecDepth 100000 in
theorem q_959 : (Cond.code ({ cls := "FollowedHoursModel", name := "rings", desc := "()I" } : Jvm.MethodName) prog_7_method_45_code (1 : Nat) (Option.some Jvm.ClassFile.FieldType.int)) ∈ fh_T := fh_Tin 959 (by decide +kernel) rfl
set_option maxRecDepth 100000 in
theorem q_964 : (Cond.methodLink "FollowedHoursLaw" (60 : Nat) ({ cls := "FollowedHoursModel", name := "before", desc := "(I)I" } : Jvm.MethodName)) ∈ fh_T := fh_Tin 964 (by decide +kernel) rfl
set_option maxRecDepth 100000 in
theorem q_965 : (Cond.instanceMethod ({ cls := "FollowedHoursModel", name := "before", desc := "(I)I" } : Jvm.MethodName)) ∈ fh_T := fh_Tin 965 (by decide +kernel) rfl
set_option maxRecDepth 100000 in
theorem q_966 : (Cond.selects "FollowedHoursModel" ({ cls := "FollowedHoursModel", name := "before", desc := "(I)I" } : Jvm.MethodName) ({ cls := "FollowedHoursModel", name := "before", desc := "(I)I" } : Jvm.MethodName)) ∈ fh_T := fh_Tin 966 (by decide +kernel) rfl
set_option maxRecDepth 100000 in
theorem q_967 : (Cond.code ({ cls := "FollowedHoursModel", name := "before", desc := "(I)I" } : Jvm.MethodName) prog_7_method_46_code (5 : Nat) (Option.some Jvm.ClassFile.FieldType.int)) ∈ fh_T := fh_Tin 967 (by decide +kernel) rfl
set_option maxRecDepth 100000 in
theorem q_968 : (Cond.methodLink "FollowedHoursLaw" (64 : Nat) ({ cls := "FollowedHoursModel", name := "under", desc := "(I)I" } : Jvm.MethodName)) ∈ fh_T := fh_Tin 968 (by decide +kernel) rfl
set_option maxRecDepth 100000 in
theorem q_969 : (Cond.instanceMethod ({ cls := "FollowedHoursModel", name := "under", desc := "(I)I" } : Jvm.MethodName)) ∈ fh_T := fh_Tin 969 (by decide +kernel) rfl
set_option maxRecDepth 100000 in
theorem q_970 : (Cond.selects "FollowedHoursModel" ({ cls := "FollowedHoursModel", name := "under", desc := "(I)I" } : Jvm.MethodName) ({ cls := "FollowedHoursModel", name := "under", desc := "(I)I" } : Jvm.MethodName)) ∈ fh_T := fh_Tin 970 (by decide +kernel) rfl
set_option maxRecDepth 100000 in
theorem q_971 : (Cond.code ({ cls := "FollowedHoursModel", name := "under", desc := "(I)I" } : Jvm.MethodName) prog_7_method_48_code (2 : Nat) (Option.some Jvm.ClassFile.FieldType.int)) ∈ fh_T := fh_Tin 971 (by decide +kernel) rfl
set_option maxRecDepth 100000 in
theorem q_976 : (Cond.methodLink "FollowedHoursLaw" (68 : Nat) ({ cls := "FollowedHoursModel", name := "greatest", desc := "()I" } : Jvm.MethodName)) ∈ fh_T := fh_Tin 976 (by decide +kernel) rfl
set_option maxRecDepth 100000 in
theorem q_977 : (Cond.instanceMethod ({ cls := "FollowedHoursModel", name := "greatest", desc := "()I" } : Jvm.MethodName)) ∈ fh_T := fh_Tin 977 (by decide +kernel) rfl
set_option maxRecDepth 100000 in
theorem q_978 : (Cond.selects "FollowedHoursModel" ({ cls := "FollowedHoursModel", name := "greatest", desc := "()I" } : Jvm.MethodName) ({ cls := "FollowedHoursModel", name := "greatest", desc := "()I" } : Jvm.MethodName)) ∈ fh_T := fh_Tin 978 (by decide +kernel) rfl
set_option maxRecDepth 100000 in
theorem q_979 : (Cond.code ({ cls := "FollowedHoursModel", name := "greatest", desc := "()I" } : Jvm.MethodName) prog_7_method_49_code (5 : Nat) (Option.some Jvm.ClassFile.FieldType.int)) ∈ fh_T := fh_Tin 979 (by decide +kernel) rfl
set_option maxRecDepth 100000 in
theorem q_985 : (Cond.methodLink "FollowedHoursLaw" (72 : Nat) ({ cls := "FollowedHoursModel", name := "ahead", desc := "(II)I" } : Jvm.MethodName)) ∈ fh_T := fh_Tin 985 (by decide +kernel) rfl
set_option maxRecDepth 100000 in
theorem q_986 : (Cond.instanceMethod ({ cls := "FollowedHoursModel", name := "ahead", desc := "(II)I" } : Jvm.MethodName)) ∈ fh_T := fh_Tin 986 (by decide +kernel) rfl
set_option maxRecDepth 100000 in
theorem q_987 : (Cond.selects "FollowedHoursModel" ({ cls := "FollowedHoursModel", name := "ahead", desc := "(II)I" } : Jvm.MethodName) ({ cls := "FollowedHoursModel", name := "ahead", desc := "(II)I" } : Jvm.MethodName)) ∈ fh_T := fh_Tin 987 (by decide +kernel) rfl
set_option maxRecDepth 100000 in
theorem q_988 : (Cond.code ({ cls := "FollowedHoursModel", name := "ahead", desc := "(II)I" } : Jvm.MethodName) prog_7_method_51_code (3 : Nat) (Option.some Jvm.ClassFile.FieldType.int)) ∈ fh_T := fh_Tin 988 (by decide +kernel) rfl
set_option maxRecDepth 100000 in
theorem q_1000 : (Cond.methodLink "FollowedHoursLaw" (76 : Nat) ({ cls := "FollowedHoursModel", name := "going", desc := "(II)I" } : Jvm.MethodName)) ∈ fh_T := fh_Tin 1000 (by decide +kernel) rfl
set_option maxRecDepth 100000 in
theorem q_1001 : (Cond.instanceMethod ({ cls := "FollowedHoursModel", name := "going", desc := "(II)I" } : Jvm.MethodName)) ∈ fh_T := fh_Tin 1001 (by decide +kernel) rfl
set_option maxRecDepth 100000 in
theorem q_1002 : (Cond.selects "FollowedHoursModel" ({ cls := "FollowedHoursModel", name := "going", desc := "(II)I" } : Jvm.MethodName) ({ cls := "FollowedHoursModel", name := "going", desc := "(II)I" } : Jvm.MethodName)) ∈ fh_T := fh_Tin 1002 (by decide +kernel) rfl
set_option maxRecDepth 100000 in
theorem q_1003 : (Cond.code ({ cls := "FollowedHoursModel", name := "going", desc := "(II)I" } : Jvm.MethodName) prog_7_method_52_code (3 : Nat) (Option.some Jvm.ClassFile.FieldType.int)) ∈ fh_T := fh_Tin 1003 (by decide +kernel) rfl
set_option maxRecDepth 100000 in
theorem q_1004 : (Cond.methodLink "FollowedHoursLaw" (80 : Nat) ({ cls := "FollowedHoursModel", name := "shows", desc := "(II)I" } : Jvm.MethodName)) ∈ fh_T := fh_Tin 1004 (by decide +kernel) rfl
set_option maxRecDepth 100000 in
theorem q_1005 : (Cond.instanceMethod ({ cls := "FollowedHoursModel", name := "shows", desc := "(II)I" } : Jvm.MethodName)) ∈ fh_T := fh_Tin 1005 (by decide +kernel) rfl
set_option maxRecDepth 100000 in
theorem q_1006 : (Cond.selects "FollowedHoursModel" ({ cls := "FollowedHoursModel", name := "shows", desc := "(II)I" } : Jvm.MethodName) ({ cls := "FollowedHoursModel", name := "shows", desc := "(II)I" } : Jvm.MethodName)) ∈ fh_T := fh_Tin 1006 (by decide +kernel) rfl
set_option maxRecDepth 100000 in
theorem q_1007 : (Cond.code ({ cls := "FollowedHoursModel", name := "shows", desc := "(II)I" } : Jvm.MethodName) prog_7_method_53_code (4 : Nat) (Option.some Jvm.ClassFile.FieldType.int)) ∈ fh_T := fh_Tin 1007 (by decide +kernel) rfl
set_option maxRecDepth 100000 in
theorem q_1008 : (Cond.methodLink "FollowedHoursLaw" (84 : Nat) ({ cls := "FollowedHoursModel", name := "meet", desc := "(II)I" } : Jvm.MethodName)) ∈ fh_T := fh_Tin 1008 (by decide +kernel) rfl
set_option maxRecDepth 100000 in
theorem q_1009 : (Cond.instanceMethod ({ cls := "FollowedHoursModel", name := "meet", desc := "(II)I" } : Jvm.MethodName)) ∈ fh_T := fh_Tin 1009 (by decide +kernel) rfl
set_option maxRecDepth 100000 in
theorem q_1010 : (Cond.selects "FollowedHoursModel" ({ cls := "FollowedHoursModel", name := "meet", desc := "(II)I" } : Jvm.MethodName) ({ cls := "FollowedHoursModel", name := "meet", desc := "(II)I" } : Jvm.MethodName)) ∈ fh_T := fh_Tin 1010 (by decide +kernel) rfl
set_option maxRecDepth 100000 in
theorem q_1011 : (Cond.code ({ cls := "FollowedHoursModel", name := "meet", desc := "(II)I" } : Jvm.MethodName) prog_7_method_54_code (4 : Nat) (Option.some Jvm.ClassFile.FieldType.int)) ∈ fh_T := fh_Tin 1011 (by decide +kernel) rfl
set_option maxRecDepth 100000 in
theorem q_1012 : (Cond.methodLink "FollowedHoursLaw" (88 : Nat) ({ cls := "FollowedHoursModel", name := "halts", desc := "(I)I" } : Jvm.MethodName)) ∈ fh_T := fh_Tin 1012 (by decide +kernel) rfl
set_option maxRecDepth 100000 in
theorem q_1013 : (Cond.instanceMethod ({ cls := "FollowedHoursModel", name := "halts", desc := "(I)I" } : Jvm.MethodName)) ∈ fh_T := fh_Tin 1013 (by decide +kernel) rfl
set_option maxRecDepth 100000 in
theorem q_1014 : (Cond.selects "FollowedHoursModel" ({ cls := "FollowedHoursModel", name := "halts", desc := "(I)I" } : Jvm.MethodName) ({ cls := "FollowedHoursModel", name := "halts", desc := "(I)I" } : Jvm.MethodName)) ∈ fh_T := fh_Tin 1014 (by decide +kernel) rfl
set_option maxRecDepth 100000 in
theorem q_1015 : (Cond.code ({ cls := "FollowedHoursModel", name := "halts", desc := "(I)I" } : Jvm.MethodName) prog_7_method_55_code (3 : Nat) (Option.some Jvm.ClassFile.FieldType.int)) ∈ fh_T := fh_Tin 1015 (by decide +kernel) rfl
set_option maxRecDepth 100000 in
theorem q_1016 : (Cond.methodLink "FollowedHoursLaw" (92 : Nat) ({ cls := "FollowedHoursModel", name := "settles", desc := "()I" } : Jvm.MethodName)) ∈ fh_T := fh_Tin 1016 (by decide +kernel) rfl
set_option maxRecDepth 100000 in
theorem q_1017 : (Cond.instanceMethod ({ cls := "FollowedHoursModel", name := "settles", desc := "()I" } : Jvm.MethodName)) ∈ fh_T := fh_Tin 1017 (by decide +kernel) rfl
set_option maxRecDepth 100000 in
theorem q_1018 : (Cond.selects "FollowedHoursModel" ({ cls := "FollowedHoursModel", name := "settles", desc := "()I" } : Jvm.MethodName) ({ cls := "FollowedHoursModel", name := "settles", desc := "()I" } : Jvm.MethodName)) ∈ fh_T := fh_Tin 1018 (by decide +kernel) rfl
set_option maxRecDepth 100000 in
theorem q_1019 : (Cond.code ({ cls := "FollowedHoursModel", name := "settles", desc := "()I" } : Jvm.MethodName) prog_7_method_57_code (2 : Nat) (Option.some Jvm.ClassFile.FieldType.int)) ∈ fh_T := fh_Tin 1019 (by decide +kernel) rfl
set_option maxRecDepth 100000 in
theorem q_1024 : (Cond.methodLink "FollowedHoursLaw" (96 : Nat) ({ cls := "FollowedHoursModel", name := "kindFor", desc := "(II)I" } : Jvm.MethodName)) ∈ fh_T := fh_Tin 1024 (by decide +kernel) rfl
set_option maxRecDepth 100000 in
theorem q_1025 : (Cond.instanceMethod ({ cls := "FollowedHoursModel", name := "kindFor", desc := "(II)I" } : Jvm.MethodName)) ∈ fh_T := fh_Tin 1025 (by decide +kernel) rfl
set_option maxRecDepth 100000 in
theorem q_1026 : (Cond.selects "FollowedHoursModel" ({ cls := "FollowedHoursModel", name := "kindFor", desc := "(II)I" } : Jvm.MethodName) ({ cls := "FollowedHoursModel", name := "kindFor", desc := "(II)I" } : Jvm.MethodName)) ∈ fh_T := fh_Tin 1026 (by decide +kernel) rfl
set_option maxRecDepth 100000 in
theorem q_1027 : (Cond.code ({ cls := "FollowedHoursModel", name := "kindFor", desc := "(II)I" } : Jvm.MethodName) prog_7_method_59_code (8 : Nat) (Option.some Jvm.ClassFile.FieldType.int)) ∈ fh_T := fh_Tin 1027 (by decide +kernel) rfl
set_option maxRecDepth 100000 in
theorem q_1033 : (Cond.methodLink "FollowedHoursLaw" (100 : Nat) ({ cls := "FollowedHoursModel", name := "jogFor", desc := "(III)I" } : Jvm.MethodName)) ∈ fh_T := fh_Tin 1033 (by decide +kernel) rfl
set_option maxRecDepth 100000 in
theorem q_1034 : (Cond.instanceMethod ({ cls := "FollowedHoursModel", name := "jogFor", desc := "(III)I" } : Jvm.MethodName)) ∈ fh_T := fh_Tin 1034 (by decide +kernel) rfl
set_option maxRecDepth 100000 in
theorem q_1035 : (Cond.selects "FollowedHoursModel" ({ cls := "FollowedHoursModel", name := "jogFor", desc := "(III)I" } : Jvm.MethodName) ({ cls := "FollowedHoursModel", name := "jogFor", desc := "(III)I" } : Jvm.MethodName)) ∈ fh_T := fh_Tin 1035 (by decide +kernel) rfl
set_option maxRecDepth 100000 in
theorem q_1036 : (Cond.code ({ cls := "FollowedHoursModel", name := "jogFor", desc := "(III)I" } : Jvm.MethodName) prog_7_method_60_code (5 : Nat) (Option.some Jvm.ClassFile.FieldType.int)) ∈ fh_T := fh_Tin 1036 (by decide +kernel) rfl
set_option maxRecDepth 100000 in
theorem q_1037 : (Cond.methodLink "FollowedHoursLaw" (104 : Nat) ({ cls := "FollowedHoursModel", name := "most", desc := "()I" } : Jvm.MethodName)) ∈ fh_T := fh_Tin 1037 (by decide +kernel) rfl
set_option maxRecDepth 100000 in
theorem q_1038 : (Cond.instanceMethod ({ cls := "FollowedHoursModel", name := "most", desc := "()I" } : Jvm.MethodName)) ∈ fh_T := fh_Tin 1038 (by decide +kernel) rfl
set_option maxRecDepth 100000 in
theorem q_1039 : (Cond.selects "FollowedHoursModel" ({ cls := "FollowedHoursModel", name := "most", desc := "()I" } : Jvm.MethodName) ({ cls := "FollowedHoursModel", name := "most", desc := "()I" } : Jvm.MethodName)) ∈ fh_T := fh_Tin 1039 (by decide +kernel) rfl
set_option maxRecDepth 100000 in
theorem q_1040 : (Cond.code ({ cls := "FollowedHoursModel", name := "most", desc := "()I" } : Jvm.MethodName) prog_7_method_62_code (1 : Nat) (Option.some Jvm.ClassFile.FieldType.int)) ∈ fh_T := fh_Tin 1040 (by decide +kernel) rfl
set_option maxRecDepth 100000 in
theorem q_1045 : (Cond.methodLink "FollowedHoursLaw" (108 : Nat) ({ cls := "FollowedHoursModel", name := "jogs", desc := "(I)I" } : Jvm.MethodName)) ∈ fh_T := fh_Tin 1045 (by decide +kernel) rfl
set_option maxRecDepth 100000 in
theorem q_1046 : (Cond.instanceMethod ({ cls := "FollowedHoursModel", name := "jogs", desc := "(I)I" } : Jvm.MethodName)) ∈ fh_T := fh_Tin 1046 (by decide +kernel) rfl
set_option maxRecDepth 100000 in
theorem q_1047 : (Cond.selects "FollowedHoursModel" ({ cls := "FollowedHoursModel", name := "jogs", desc := "(I)I" } : Jvm.MethodName) ({ cls := "FollowedHoursModel", name := "jogs", desc := "(I)I" } : Jvm.MethodName)) ∈ fh_T := fh_Tin 1047 (by decide +kernel) rfl
set_option maxRecDepth 100000 in
theorem q_1048 : (Cond.code ({ cls := "FollowedHoursModel", name := "jogs", desc := "(I)I" } : Jvm.MethodName) prog_7_method_64_code (2 : Nat) (Option.some Jvm.ClassFile.FieldType.int)) ∈ fh_T := fh_Tin 1048 (by decide +kernel) rfl
set_option maxRecDepth 100000 in
theorem q_1053 : (Cond.methodLink "FollowedHoursLaw" (112 : Nat) ({ cls := "FollowedHoursModel", name := "right", desc := "(I)I" } : Jvm.MethodName)) ∈ fh_T := fh_Tin 1053 (by decide +kernel) rfl
set_option maxRecDepth 100000 in
theorem q_1054 : (Cond.instanceMethod ({ cls := "FollowedHoursModel", name := "right", desc := "(I)I" } : Jvm.MethodName)) ∈ fh_T := fh_Tin 1054 (by decide +kernel) rfl
set_option maxRecDepth 100000 in
theorem q_1055 : (Cond.selects "FollowedHoursModel" ({ cls := "FollowedHoursModel", name := "right", desc := "(I)I" } : Jvm.MethodName) ({ cls := "FollowedHoursModel", name := "right", desc := "(I)I" } : Jvm.MethodName)) ∈ fh_T := fh_Tin 1055 (by decide +kernel) rfl
set_option maxRecDepth 100000 in
theorem q_1056 : (Cond.code ({ cls := "FollowedHoursModel", name := "right", desc := "(I)I" } : Jvm.MethodName) prog_7_method_65_code (2 : Nat) (Option.some Jvm.ClassFile.FieldType.int)) ∈ fh_T := fh_Tin 1056 (by decide +kernel) rfl
set_option maxRecDepth 100000 in
theorem q_1057 : (Cond.methodLink "FollowedHoursLaw" (116 : Nat) ({ cls := "FollowedHoursModel", name := "masters", desc := "(II)I" } : Jvm.MethodName)) ∈ fh_T := fh_Tin 1057 (by decide +kernel) rfl
set_option maxRecDepth 100000 in
theorem q_1058 : (Cond.instanceMethod ({ cls := "FollowedHoursModel", name := "masters", desc := "(II)I" } : Jvm.MethodName)) ∈ fh_T := fh_Tin 1058 (by decide +kernel) rfl
set_option maxRecDepth 100000 in
theorem q_1059 : (Cond.selects "FollowedHoursModel" ({ cls := "FollowedHoursModel", name := "masters", desc := "(II)I" } : Jvm.MethodName) ({ cls := "FollowedHoursModel", name := "masters", desc := "(II)I" } : Jvm.MethodName)) ∈ fh_T := fh_Tin 1059 (by decide +kernel) rfl
set_option maxRecDepth 100000 in
theorem q_1060 : (Cond.code ({ cls := "FollowedHoursModel", name := "masters", desc := "(II)I" } : Jvm.MethodName) prog_7_method_69_code (3 : Nat) (Option.some Jvm.ClassFile.FieldType.int)) ∈ fh_T := fh_Tin 1060 (by decide +kernel) rfl
set_option maxRecDepth 100000 in
theorem q_1077 : (Cond.methodLink "FollowedHoursLaw" (120 : Nat) ({ cls := "FollowedHoursModel", name := "kinds", desc := "(II)I" } : Jvm.MethodName)) ∈ fh_T := fh_Tin 1077 (by decide +kernel) rfl
set_option maxRecDepth 100000 in
theorem q_1078 : (Cond.instanceMethod ({ cls := "FollowedHoursModel", name := "kinds", desc := "(II)I" } : Jvm.MethodName)) ∈ fh_T := fh_Tin 1078 (by decide +kernel) rfl
set_option maxRecDepth 100000 in
theorem q_1079 : (Cond.selects "FollowedHoursModel" ({ cls := "FollowedHoursModel", name := "kinds", desc := "(II)I" } : Jvm.MethodName) ({ cls := "FollowedHoursModel", name := "kinds", desc := "(II)I" } : Jvm.MethodName)) ∈ fh_T := fh_Tin 1079 (by decide +kernel) rfl
set_option maxRecDepth 100000 in
theorem q_1080 : (Cond.code ({ cls := "FollowedHoursModel", name := "kinds", desc := "(II)I" } : Jvm.MethodName) prog_7_method_70_code (3 : Nat) (Option.some Jvm.ClassFile.FieldType.int)) ∈ fh_T := fh_Tin 1080 (by decide +kernel) rfl
set_option maxRecDepth 100000 in
theorem q_1081 : (Cond.methodLink "FollowedHoursLaw" (124 : Nat) ({ cls := "FollowedHoursModel", name := "masterFor", desc := "(III)I" } : Jvm.MethodName)) ∈ fh_T := fh_Tin 1081 (by decide +kernel) rfl
set_option maxRecDepth 100000 in
theorem q_1082 : (Cond.instanceMethod ({ cls := "FollowedHoursModel", name := "masterFor", desc := "(III)I" } : Jvm.MethodName)) ∈ fh_T := fh_Tin 1082 (by decide +kernel) rfl
set_option maxRecDepth 100000 in
theorem q_1083 : (Cond.selects "FollowedHoursModel" ({ cls := "FollowedHoursModel", name := "masterFor", desc := "(III)I" } : Jvm.MethodName) ({ cls := "FollowedHoursModel", name := "masterFor", desc := "(III)I" } : Jvm.MethodName)) ∈ fh_T := fh_Tin 1083 (by decide +kernel) rfl
set_option maxRecDepth 100000 in
theorem q_1084 : (Cond.code ({ cls := "FollowedHoursModel", name := "masterFor", desc := "(III)I" } : Jvm.MethodName) prog_7_method_71_code (9 : Nat) (Option.some Jvm.ClassFile.FieldType.int)) ∈ fh_T := fh_Tin 1084 (by decide +kernel) rfl
set_option maxRecDepth 100000 in
theorem q_1085 : (Cond.methodLink "FollowedHoursLaw" (128 : Nat) ({ cls := "FollowedHoursModel", name := "halted", desc := "(II)I" } : Jvm.MethodName)) ∈ fh_T := fh_Tin 1085 (by decide +kernel) rfl
set_option maxRecDepth 100000 in
theorem q_1086 : (Cond.instanceMethod ({ cls := "FollowedHoursModel", name := "halted", desc := "(II)I" } : Jvm.MethodName)) ∈ fh_T := fh_Tin 1086 (by decide +kernel) rfl
set_option maxRecDepth 100000 in
theorem q_1087 : (Cond.selects "FollowedHoursModel" ({ cls := "FollowedHoursModel", name := "halted", desc := "(II)I" } : Jvm.MethodName) ({ cls := "FollowedHoursModel", name := "halted", desc := "(II)I" } : Jvm.MethodName)) ∈ fh_T := fh_Tin 1087 (by decide +kernel) rfl
set_option maxRecDepth 100000 in
theorem q_1088 : (Cond.code ({ cls := "FollowedHoursModel", name := "halted", desc := "(II)I" } : Jvm.MethodName) prog_7_method_73_code (3 : Nat) (Option.some Jvm.ClassFile.FieldType.int)) ∈ fh_T := fh_Tin 1088 (by decide +kernel) rfl
set_option maxRecDepth 100000 in
theorem q_1093 : (Cond.methodLink "FollowedHoursLaw" (132 : Nat) ({ cls := "FollowedHoursModel", name := "weakest", desc := "(I)I" } : Jvm.MethodName)) ∈ fh_T := fh_Tin 1093 (by decide +kernel) rfl
set_option maxRecDepth 100000 in
theorem q_1094 : (Cond.instanceMethod ({ cls := "FollowedHoursModel", name := "weakest", desc := "(I)I" } : Jvm.MethodName)) ∈ fh_T := fh_Tin 1094 (by decide +kernel) rfl
set_option maxRecDepth 100000 in
theorem q_1095 : (Cond.selects "FollowedHoursModel" ({ cls := "FollowedHoursModel", name := "weakest", desc := "(I)I" } : Jvm.MethodName) ({ cls := "FollowedHoursModel", name := "weakest", desc := "(I)I" } : Jvm.MethodName)) ∈ fh_T := fh_Tin 1095 (by decide +kernel) rfl
set_option maxRecDepth 100000 in
theorem q_1096 : (Cond.code ({ cls := "FollowedHoursModel", name := "weakest", desc := "(I)I" } : Jvm.MethodName) prog_7_method_74_code (6 : Nat) (Option.some Jvm.ClassFile.FieldType.int)) ∈ fh_T := fh_Tin 1096 (by decide +kernel) rfl
set_option maxRecDepth 100000 in
theorem q_1097 : (Cond.methodLink "FollowedHoursLaw" (136 : Nat) ({ cls := "FollowedHoursModel", name := "cut", desc := "(I)I" } : Jvm.MethodName)) ∈ fh_T := fh_Tin 1097 (by decide +kernel) rfl
set_option maxRecDepth 100000 in
theorem q_1098 : (Cond.instanceMethod ({ cls := "FollowedHoursModel", name := "cut", desc := "(I)I" } : Jvm.MethodName)) ∈ fh_T := fh_Tin 1098 (by decide +kernel) rfl
set_option maxRecDepth 100000 in
theorem q_1099 : (Cond.selects "FollowedHoursModel" ({ cls := "FollowedHoursModel", name := "cut", desc := "(I)I" } : Jvm.MethodName) ({ cls := "FollowedHoursModel", name := "cut", desc := "(I)I" } : Jvm.MethodName)) ∈ fh_T := fh_Tin 1099 (by decide +kernel) rfl
set_option maxRecDepth 100000 in
theorem q_1100 : (Cond.code ({ cls := "FollowedHoursModel", name := "cut", desc := "(I)I" } : Jvm.MethodName) prog_7_method_75_code (6 : Nat) (Option.some Jvm.ClassFile.FieldType.int)) ∈ fh_T := fh_Tin 1100 (by decide +kernel) rfl
set_option maxRecDepth 100000 in
theorem q_1101 : (Cond.methodLink "FollowedHoursLaw" (140 : Nat) ({ cls := "FollowedHoursModel", name := "frosts", desc := "(I)I" } : Jvm.MethodName)) ∈ fh_T := fh_Tin 1101 (by decide +kernel) rfl
set_option maxRecDepth 100000 in
theorem q_1102 : (Cond.instanceMethod ({ cls := "FollowedHoursModel", name := "frosts", desc := "(I)I" } : Jvm.MethodName)) ∈ fh_T := fh_Tin 1102 (by decide +kernel) rfl
set_option maxRecDepth 100000 in
theorem q_1103 : (Cond.selects "FollowedHoursModel" ({ cls := "FollowedHoursModel", name := "frosts", desc := "(I)I" } : Jvm.MethodName) ({ cls := "FollowedHoursModel", name := "frosts", desc := "(I)I" } : Jvm.MethodName)) ∈ fh_T := fh_Tin 1103 (by decide +kernel) rfl
set_option maxRecDepth 100000 in
theorem q_1104 : (Cond.code ({ cls := "FollowedHoursModel", name := "frosts", desc := "(I)I" } : Jvm.MethodName) prog_7_method_77_code (5 : Nat) (Option.some Jvm.ClassFile.FieldType.int)) ∈ fh_T := fh_Tin 1104 (by decide +kernel) rfl
set_option maxRecDepth 100000 in
theorem q_1110 : (Cond.methodLink "FollowedHoursLaw" (145 : Nat) ({ cls := "FollowedHoursModel", name := "odds", desc := "(II)J" } : Jvm.MethodName)) ∈ fh_T := fh_Tin 1110 (by decide +kernel) rfl
set_option maxRecDepth 100000 in
theorem q_1111 : (Cond.instanceMethod ({ cls := "FollowedHoursModel", name := "odds", desc := "(II)J" } : Jvm.MethodName)) ∈ fh_T := fh_Tin 1111 (by decide +kernel) rfl
set_option maxRecDepth 100000 in
theorem q_1112 : (Cond.selects "FollowedHoursModel" ({ cls := "FollowedHoursModel", name := "odds", desc := "(II)J" } : Jvm.MethodName) ({ cls := "FollowedHoursModel", name := "odds", desc := "(II)J" } : Jvm.MethodName)) ∈ fh_T := fh_Tin 1112 (by decide +kernel) rfl
set_option maxRecDepth 100000 in
theorem q_1113 : (Cond.code ({ cls := "FollowedHoursModel", name := "odds", desc := "(II)J" } : Jvm.MethodName) prog_7_method_78_code (6 : Nat) (Option.some Jvm.ClassFile.FieldType.long)) ∈ fh_T := fh_Tin 1113 (by decide +kernel) rfl
set_option maxRecDepth 100000 in
theorem q_1114 : (Cond.methodLink "FollowedHoursLaw" (149 : Nat) ({ cls := "FollowedHoursModel", name := "seed", desc := "(I)I" } : Jvm.MethodName)) ∈ fh_T := fh_Tin 1114 (by decide +kernel) rfl
set_option maxRecDepth 100000 in
theorem q_1115 : (Cond.instanceMethod ({ cls := "FollowedHoursModel", name := "seed", desc := "(I)I" } : Jvm.MethodName)) ∈ fh_T := fh_Tin 1115 (by decide +kernel) rfl
set_option maxRecDepth 100000 in
theorem q_1116 : (Cond.selects "FollowedHoursModel" ({ cls := "FollowedHoursModel", name := "seed", desc := "(I)I" } : Jvm.MethodName) ({ cls := "FollowedHoursModel", name := "seed", desc := "(I)I" } : Jvm.MethodName)) ∈ fh_T := fh_Tin 1116 (by decide +kernel) rfl
set_option maxRecDepth 100000 in
theorem q_1117 : (Cond.code ({ cls := "FollowedHoursModel", name := "seed", desc := "(I)I" } : Jvm.MethodName) prog_7_method_79_code (2 : Nat) (Option.some Jvm.ClassFile.FieldType.int)) ∈ fh_T := fh_Tin 1117 (by decide +kernel) rfl
set_option maxRecDepth 100000 in
theorem q_1118 : (Cond.methodLink "FollowedHoursLaw" (153 : Nat) ({ cls := "FollowedHoursModel", name := "feed", desc := "(II)I" } : Jvm.MethodName)) ∈ fh_T := fh_Tin 1118 (by decide +kernel) rfl
set_option maxRecDepth 100000 in
theorem q_1119 : (Cond.instanceMethod ({ cls := "FollowedHoursModel", name := "feed", desc := "(II)I" } : Jvm.MethodName)) ∈ fh_T := fh_Tin 1119 (by decide +kernel) rfl
set_option maxRecDepth 100000 in
theorem q_1120 : (Cond.selects "FollowedHoursModel" ({ cls := "FollowedHoursModel", name := "feed", desc := "(II)I" } : Jvm.MethodName) ({ cls := "FollowedHoursModel", name := "feed", desc := "(II)I" } : Jvm.MethodName)) ∈ fh_T := fh_Tin 1120 (by decide +kernel) rfl
set_option maxRecDepth 100000 in
theorem q_1121 : (Cond.code ({ cls := "FollowedHoursModel", name := "feed", desc := "(II)I" } : Jvm.MethodName) prog_7_method_80_code (4 : Nat) (Option.some Jvm.ClassFile.FieldType.int)) ∈ fh_T := fh_Tin 1121 (by decide +kernel) rfl
set_option maxRecDepth 100000 in
theorem q_1122 : (Cond.methodLink "FollowedHoursLaw" (157 : Nat) ({ cls := "FollowedHoursModel", name := "wipe", desc := "()I" } : Jvm.MethodName)) ∈ fh_T := fh_Tin 1122 (by decide +kernel) rfl
set_option maxRecDepth 100000 in
theorem q_1123 : (Cond.instanceMethod ({ cls := "FollowedHoursModel", name := "wipe", desc := "()I" } : Jvm.MethodName)) ∈ fh_T := fh_Tin 1123 (by decide +kernel) rfl
set_option maxRecDepth 100000 in
theorem q_1124 : (Cond.selects "FollowedHoursModel" ({ cls := "FollowedHoursModel", name := "wipe", desc := "()I" } : Jvm.MethodName) ({ cls := "FollowedHoursModel", name := "wipe", desc := "()I" } : Jvm.MethodName)) ∈ fh_T := fh_Tin 1124 (by decide +kernel) rfl
set_option maxRecDepth 100000 in
theorem q_1125 : (Cond.code ({ cls := "FollowedHoursModel", name := "wipe", desc := "()I" } : Jvm.MethodName) prog_7_method_81_code (2 : Nat) (Option.some Jvm.ClassFile.FieldType.int)) ∈ fh_T := fh_Tin 1125 (by decide +kernel) rfl
set_option maxRecDepth 100000 in
theorem q_1126 : (Cond.methodLink "FollowedHoursLaw" (161 : Nat) ({ cls := "FollowedHoursModel", name := "text", desc := "()I" } : Jvm.MethodName)) ∈ fh_T := fh_Tin 1126 (by decide +kernel) rfl
set_option maxRecDepth 100000 in
theorem q_1127 : (Cond.instanceMethod ({ cls := "FollowedHoursModel", name := "text", desc := "()I" } : Jvm.MethodName)) ∈ fh_T := fh_Tin 1127 (by decide +kernel) rfl
set_option maxRecDepth 100000 in
theorem q_1128 : (Cond.selects "FollowedHoursModel" ({ cls := "FollowedHoursModel", name := "text", desc := "()I" } : Jvm.MethodName) ({ cls := "FollowedHoursModel", name := "text", desc := "()I" } : Jvm.MethodName)) ∈ fh_T := fh_Tin 1128 (by decide +kernel) rfl
set_option maxRecDepth 100000 in
theorem q_1129 : (Cond.code ({ cls := "FollowedHoursModel", name := "text", desc := "()I" } : Jvm.MethodName) prog_7_method_93_code (3 : Nat) (Option.some Jvm.ClassFile.FieldType.int)) ∈ fh_T := fh_Tin 1129 (by decide +kernel) rfl
set_option maxRecDepth 100000 in
theorem q_1182 : (Cond.methodLink "FollowedHoursLaw" (165 : Nat) ({ cls := "FollowedHoursModel", name := "hold", desc := "(II)I" } : Jvm.MethodName)) ∈ fh_T := fh_Tin 1182 (by decide +kernel) rfl
set_option maxRecDepth 100000 in
theorem q_1183 : (Cond.instanceMethod ({ cls := "FollowedHoursModel", name := "hold", desc := "(II)I" } : Jvm.MethodName)) ∈ fh_T := fh_Tin 1183 (by decide +kernel) rfl
set_option maxRecDepth 100000 in
theorem q_1184 : (Cond.selects "FollowedHoursModel" ({ cls := "FollowedHoursModel", name := "hold", desc := "(II)I" } : Jvm.MethodName) ({ cls := "FollowedHoursModel", name := "hold", desc := "(II)I" } : Jvm.MethodName)) ∈ fh_T := fh_Tin 1184 (by decide +kernel) rfl
set_option maxRecDepth 100000 in
theorem q_1185 : (Cond.code ({ cls := "FollowedHoursModel", name := "hold", desc := "(II)I" } : Jvm.MethodName) prog_7_method_95_code (3 : Nat) (Option.some Jvm.ClassFile.FieldType.int)) ∈ fh_T := fh_Tin 1185 (by decide +kernel) rfl
set_option maxRecDepth 100000 in
theorem q_1189 : (Cond.methodLink "FollowedHoursLaw" (169 : Nat) ({ cls := "FollowedHoursModel", name := "as", desc := "(II)I" } : Jvm.MethodName)) ∈ fh_T := fh_Tin 1189 (by decide +kernel) rfl
set_option maxRecDepth 100000 in
theorem q_1190 : (Cond.instanceMethod ({ cls := "FollowedHoursModel", name := "as", desc := "(II)I" } : Jvm.MethodName)) ∈ fh_T := fh_Tin 1190 (by decide +kernel) rfl
set_option maxRecDepth 100000 in
theorem q_1191 : (Cond.selects "FollowedHoursModel" ({ cls := "FollowedHoursModel", name := "as", desc := "(II)I" } : Jvm.MethodName) ({ cls := "FollowedHoursModel", name := "as", desc := "(II)I" } : Jvm.MethodName)) ∈ fh_T := fh_Tin 1191 (by decide +kernel) rfl
set_option maxRecDepth 100000 in
theorem q_1192 : (Cond.code ({ cls := "FollowedHoursModel", name := "as", desc := "(II)I" } : Jvm.MethodName) prog_7_method_96_code (4 : Nat) (Option.some Jvm.ClassFile.FieldType.int)) ∈ fh_T := fh_Tin 1192 (by decide +kernel) rfl
set_option maxRecDepth 100000 in
theorem q_1200 : (Cond.methodLink "FollowedHoursLaw" (173 : Nat) ({ cls := "FollowedHoursModel", name := "sheet", desc := "(III)I" } : Jvm.MethodName)) ∈ fh_T := fh_Tin 1200 (by decide +kernel) rfl
set_option maxRecDepth 100000 in
theorem q_1201 : (Cond.instanceMethod ({ cls := "FollowedHoursModel", name := "sheet", desc := "(III)I" } : Jvm.MethodName)) ∈ fh_T := fh_Tin 1201 (by decide +kernel) rfl
set_option maxRecDepth 100000 in
theorem q_1202 : (Cond.selects "FollowedHoursModel" ({ cls := "FollowedHoursModel", name := "sheet", desc := "(III)I" } : Jvm.MethodName) ({ cls := "FollowedHoursModel", name := "sheet", desc := "(III)I" } : Jvm.MethodName)) ∈ fh_T := fh_Tin 1202 (by decide +kernel) rfl
set_option maxRecDepth 100000 in
theorem q_1203 : (Cond.code ({ cls := "FollowedHoursModel", name := "sheet", desc := "(III)I" } : Jvm.MethodName) prog_7_method_99_code (5 : Nat) (Option.some Jvm.ClassFile.FieldType.int)) ∈ fh_T := fh_Tin 1203 (by decide +kernel) rfl
set_option maxRecDepth 100000 in
theorem q_1205 : (Cond.methodLink "FollowedHoursLaw" (177 : Nat) ({ cls := "FollowedHoursModel", name := "write", desc := "(III)I" } : Jvm.MethodName)) ∈ fh_T := fh_Tin 1205 (by decide +kernel) rfl
set_option maxRecDepth 100000 in
theorem q_1206 : (Cond.instanceMethod ({ cls := "FollowedHoursModel", name := "write", desc := "(III)I" } : Jvm.MethodName)) ∈ fh_T := fh_Tin 1206 (by decide +kernel) rfl
set_option maxRecDepth 100000 in
theorem q_1207 : (Cond.selects "FollowedHoursModel" ({ cls := "FollowedHoursModel", name := "write", desc := "(III)I" } : Jvm.MethodName) ({ cls := "FollowedHoursModel", name := "write", desc := "(III)I" } : Jvm.MethodName)) ∈ fh_T := fh_Tin 1207 (by decide +kernel) rfl
set_option maxRecDepth 100000 in
theorem q_1208 : (Cond.code ({ cls := "FollowedHoursModel", name := "write", desc := "(III)I" } : Jvm.MethodName) prog_7_method_100_code (4 : Nat) (Option.some Jvm.ClassFile.FieldType.int)) ∈ fh_T := fh_Tin 1208 (by decide +kernel) rfl
set_option maxRecDepth 100000 in
theorem q_1212 : (Cond.methodLink "FollowedHoursLaw" (182 : Nat) ({ cls := "FollowedHoursModel", name := "copy", desc := "(IIIII)I" } : Jvm.MethodName)) ∈ fh_T := fh_Tin 1212 (by decide +kernel) rfl
set_option maxRecDepth 100000 in
theorem q_1213 : (Cond.instanceMethod ({ cls := "FollowedHoursModel", name := "copy", desc := "(IIIII)I" } : Jvm.MethodName)) ∈ fh_T := fh_Tin 1213 (by decide +kernel) rfl
set_option maxRecDepth 100000 in
theorem q_1214 : (Cond.selects "FollowedHoursModel" ({ cls := "FollowedHoursModel", name := "copy", desc := "(IIIII)I" } : Jvm.MethodName) ({ cls := "FollowedHoursModel", name := "copy", desc := "(IIIII)I" } : Jvm.MethodName)) ∈ fh_T := fh_Tin 1214 (by decide +kernel) rfl
set_option maxRecDepth 100000 in
theorem q_1215 : (Cond.code ({ cls := "FollowedHoursModel", name := "copy", desc := "(IIIII)I" } : Jvm.MethodName) prog_7_method_101_code (7 : Nat) (Option.some Jvm.ClassFile.FieldType.int)) ∈ fh_T := fh_Tin 1215 (by decide +kernel) rfl
set_option maxRecDepth 100000 in
theorem q_1216 : (Cond.methodLink "FollowedHoursLaw" (186 : Nat) ({ cls := "FollowedHoursModel", name := "load", desc := "(I)I" } : Jvm.MethodName)) ∈ fh_T := fh_Tin 1216 (by decide +kernel) rfl
set_option maxRecDepth 100000 in
theorem q_1217 : (Cond.instanceMethod ({ cls := "FollowedHoursModel", name := "load", desc := "(I)I" } : Jvm.MethodName)) ∈ fh_T := fh_Tin 1217 (by decide +kernel) rfl
set_option maxRecDepth 100000 in
theorem q_1218 : (Cond.selects "FollowedHoursModel" ({ cls := "FollowedHoursModel", name := "load", desc := "(I)I" } : Jvm.MethodName) ({ cls := "FollowedHoursModel", name := "load", desc := "(I)I" } : Jvm.MethodName)) ∈ fh_T := fh_Tin 1218 (by decide +kernel) rfl
set_option maxRecDepth 100000 in
theorem q_1219 : (Cond.code ({ cls := "FollowedHoursModel", name := "load", desc := "(I)I" } : Jvm.MethodName) prog_7_method_102_code (3 : Nat) (Option.some Jvm.ClassFile.FieldType.int)) ∈ fh_T := fh_Tin 1219 (by decide +kernel) rfl
set_option maxRecDepth 100000 in
theorem q_1220 : (Cond.methodLink "FollowedHoursLaw" (190 : Nat) ({ cls := "FollowedHoursModel", name := "judge", desc := "(I)I" } : Jvm.MethodName)) ∈ fh_T := fh_Tin 1220 (by decide +kernel) rfl
set_option maxRecDepth 100000 in
theorem q_1221 : (Cond.instanceMethod ({ cls := "FollowedHoursModel", name := "judge", desc := "(I)I" } : Jvm.MethodName)) ∈ fh_T := fh_Tin 1221 (by decide +kernel) rfl
set_option maxRecDepth 100000 in
theorem q_1222 : (Cond.selects "FollowedHoursModel" ({ cls := "FollowedHoursModel", name := "judge", desc := "(I)I" } : Jvm.MethodName) ({ cls := "FollowedHoursModel", name := "judge", desc := "(I)I" } : Jvm.MethodName)) ∈ fh_T := fh_Tin 1222 (by decide +kernel) rfl
set_option maxRecDepth 100000 in
theorem q_1223 : (Cond.code ({ cls := "FollowedHoursModel", name := "judge", desc := "(I)I" } : Jvm.MethodName) prog_7_method_103_code (5 : Nat) (Option.some Jvm.ClassFile.FieldType.int)) ∈ fh_T := fh_Tin 1223 (by decide +kernel) rfl
set_option maxRecDepth 100000 in
theorem q_1224 : (Cond.methodLink "FollowedHoursLaw" (194 : Nat) ({ cls := "FollowedHoursModel", name := "image", desc := "()I" } : Jvm.MethodName)) ∈ fh_T := fh_Tin 1224 (by decide +kernel) rfl
set_option maxRecDepth 100000 in
theorem q_1225 : (Cond.instanceMethod ({ cls := "FollowedHoursModel", name := "image", desc := "()I" } : Jvm.MethodName)) ∈ fh_T := fh_Tin 1225 (by decide +kernel) rfl
set_option maxRecDepth 100000 in
theorem q_1226 : (Cond.selects "FollowedHoursModel" ({ cls := "FollowedHoursModel", name := "image", desc := "()I" } : Jvm.MethodName) ({ cls := "FollowedHoursModel", name := "image", desc := "()I" } : Jvm.MethodName)) ∈ fh_T := fh_Tin 1226 (by decide +kernel) rfl
set_option maxRecDepth 100000 in
theorem q_1227 : (Cond.code ({ cls := "FollowedHoursModel", name := "image", desc := "()I" } : Jvm.MethodName) prog_7_method_104_code (1 : Nat) (Option.some Jvm.ClassFile.FieldType.int)) ∈ fh_T := fh_Tin 1227 (by decide +kernel) rfl
set_option maxRecDepth 100000 in
theorem q_1228 : (Cond.methodLink "FollowedHoursLaw" (198 : Nat) ({ cls := "FollowedHoursModel", name := "undo", desc := "()I" } : Jvm.MethodName)) ∈ fh_T := fh_Tin 1228 (by decide +kernel) rfl
set_option maxRecDepth 100000 in
theorem q_1229 : (Cond.instanceMethod ({ cls := "FollowedHoursModel", name := "undo", desc := "()I" } : Jvm.MethodName)) ∈ fh_T := fh_Tin 1229 (by decide +kernel) rfl
set_option maxRecDepth 100000 in
theorem q_1230 : (Cond.selects "FollowedHoursModel" ({ cls := "FollowedHoursModel", name := "undo", desc := "()I" } : Jvm.MethodName) ({ cls := "FollowedHoursModel", name := "undo", desc := "()I" } : Jvm.MethodName)) ∈ fh_T := fh_Tin 1230 (by decide +kernel) rfl
set_option maxRecDepth 100000 in
theorem q_1231 : (Cond.code ({ cls := "FollowedHoursModel", name := "undo", desc := "()I" } : Jvm.MethodName) prog_7_method_105_code (1 : Nat) (Option.some Jvm.ClassFile.FieldType.int)) ∈ fh_T := fh_Tin 1231 (by decide +kernel) rfl
set_option maxRecDepth 100000 in
theorem q_1232 : (Cond.methodLink "FollowedHoursLaw" (202 : Nat) ({ cls := "FollowedHoursModel", name := "tear", desc := "()I" } : Jvm.MethodName)) ∈ fh_T := fh_Tin 1232 (by decide +kernel) rfl
set_option maxRecDepth 100000 in
theorem q_1233 : (Cond.instanceMethod ({ cls := "FollowedHoursModel", name := "tear", desc := "()I" } : Jvm.MethodName)) ∈ fh_T := fh_Tin 1233 (by decide +kernel) rfl
set_option maxRecDepth 100000 in
theorem q_1234 : (Cond.selects "FollowedHoursModel" ({ cls := "FollowedHoursModel", name := "tear", desc := "()I" } : Jvm.MethodName) ({ cls := "FollowedHoursModel", name := "tear", desc := "()I" } : Jvm.MethodName)) ∈ fh_T := fh_Tin 1234 (by decide +kernel) rfl
set_option maxRecDepth 100000 in
theorem q_1235 : (Cond.code ({ cls := "FollowedHoursModel", name := "tear", desc := "()I" } : Jvm.MethodName) prog_7_method_106_code (2 : Nat) (Option.some Jvm.ClassFile.FieldType.int)) ∈ fh_T := fh_Tin 1235 (by decide +kernel) rfl
set_option maxRecDepth 100000 in
theorem q_1236 : (Cond.methodLink "FollowedHoursLaw" (206 : Nat) ({ cls := "FollowedHoursModel", name := "count", desc := "(I)I" } : Jvm.MethodName)) ∈ fh_T := fh_Tin 1236 (by decide +kernel) rfl
set_option maxRecDepth 100000 in
theorem q_1237 : (Cond.instanceMethod ({ cls := "FollowedHoursModel", name := "count", desc := "(I)I" } : Jvm.MethodName)) ∈ fh_T := fh_Tin 1237 (by decide +kernel) rfl
set_option maxRecDepth 100000 in
theorem q_1238 : (Cond.selects "FollowedHoursModel" ({ cls := "FollowedHoursModel", name := "count", desc := "(I)I" } : Jvm.MethodName) ({ cls := "FollowedHoursModel", name := "count", desc := "(I)I" } : Jvm.MethodName)) ∈ fh_T := fh_Tin 1238 (by decide +kernel) rfl
set_option maxRecDepth 100000 in
theorem q_1239 : (Cond.code ({ cls := "FollowedHoursModel", name := "count", desc := "(I)I" } : Jvm.MethodName) prog_7_method_107_code (4 : Nat) (Option.some Jvm.ClassFile.FieldType.int)) ∈ fh_T := fh_Tin 1239 (by decide +kernel) rfl
set_option maxRecDepth 100000 in
theorem q_1240 : (Cond.methodLink "FollowedHoursLaw" (210 : Nat) ({ cls := "FollowedHoursModel", name := "status", desc := "(I)I" } : Jvm.MethodName)) ∈ fh_T := fh_Tin 1240 (by decide +kernel) rfl
set_option maxRecDepth 100000 in
theorem q_1241 : (Cond.instanceMethod ({ cls := "FollowedHoursModel", name := "status", desc := "(I)I" } : Jvm.MethodName)) ∈ fh_T := fh_Tin 1241 (by decide +kernel) rfl
set_option maxRecDepth 100000 in
theorem q_1242 : (Cond.selects "FollowedHoursModel" ({ cls := "FollowedHoursModel", name := "status", desc := "(I)I" } : Jvm.MethodName) ({ cls := "FollowedHoursModel", name := "status", desc := "(I)I" } : Jvm.MethodName)) ∈ fh_T := fh_Tin 1242 (by decide +kernel) rfl
set_option maxRecDepth 100000 in
theorem q_1243 : (Cond.code ({ cls := "FollowedHoursModel", name := "status", desc := "(I)I" } : Jvm.MethodName) prog_7_method_108_code (2 : Nat) (Option.some Jvm.ClassFile.FieldType.int)) ∈ fh_T := fh_Tin 1243 (by decide +kernel) rfl
/-! ===== the law: its rows ===== -/
abbrev lw_M (p : Program) (l : Launch) (e : Env) (s : State) (m : MethodId) (b : Nat) (below : List Frame) (meth : Method) (c : Code) (cl sl : Nat) (Z : State → Prop) : fh_M := (p, l, e, room_1, s, m, #[Value.ref b], below, meth, c, cl, sl, fun _ _ => Z)
abbrev lw_lv (E : fh_E) (b : Nat) (x : Int32) : List (Nat × Value) := [(3, .int x), (2, .ref (fh_ad E 44)), (1, .ref (fh_ad E 0)), (0, .ref b)]
section LWB
variable {E : fh_E} {p : Program} {l : Launch} {e : Env} {s : State} {m : MethodId} {b : Nat} {below : List Frame} {meth : Method} {c : Code} {cl sl : Nat} {Z : State → Prop} {L : Nat} {xs : Nat → Int32}
theorem lw_sld (C : fh_Cx E (lw_M p l e s m b below meth c cl sl Z) code 4 RL ret room_1) (hX : va_X b L xs s s.heap) (hbl : b < s.heap.size) (hbA : ¬ fh_A E b) {i : Int32} (hin : vp_in i L) {pc : Nat} {lv : List (Nat × Value)} {st : List Value} {σ : fh_S} {X : Option (Unit × fh_S)} (hd : decode code pc = .ok (.iaload, 1))
    (K : fh_Go E (lw_M p l e s m b below meth c cl sl Z) 4 fh_vU (pc + 1) lv (.int (xs i.toNatClampNeg) :: st) σ X) : fh_Go E (lw_M p l e s m b below meth c cl sl Z) 4 fh_vU pc lv (.int i :: .ref b :: st) σ X := by
  obtain ⟨hx, hb, hml, hown, hts, hlk, hr, hR, hK, hE, hok, hcl⟩ := C
  intro r σ' hX' H locs ls hP hS hl
  exact va_sld hx hb hX hbl hbA hS hin hd (K r σ' hX' H locs ls hP hS hl)
theorem lw_slen (C : fh_Cx E (lw_M p l e s m b below meth c cl sl Z) code 4 RL ret room_1) (hX : va_X b L xs s s.heap) (hbl : b < s.heap.size) (hbA : ¬ fh_A E b) {pc : Nat} {lv : List (Nat × Value)} {st : List Value} {σ : fh_S} {X : Option (Unit × fh_S)} (hd : decode code pc = .ok (.arraylength, 1))
    (K : fh_Go E (lw_M p l e s m b below meth c cl sl Z) 4 fh_vU (pc + 1) lv (.int (nI L) :: st) σ X) : fh_Go E (lw_M p l e s m b below meth c cl sl Z) 4 fh_vU pc lv (.ref b :: st) σ X := by
  obtain ⟨hx, hb, hml, hown, hts, hlk, hr, hR, hK, hE, hok, hcl⟩ := C
  intro r σ' hX' H locs ls hP hS hl
  exact va_slen hx hb hX hbl hbA hS hd (K r σ' hX' H locs ls hP hS hl)
theorem lw_fin {β : Type} {c2 r2 : fh_S → Option (β × fh_S)} {T : β → β → Prop} [dT : ∀ a b, Decidable (T a b)] (hT : ∀ v, T v v) (hs : fh_Stp c2 r2) {N : Nat} {A σ : fh_S} (hN : N < 512) (hA : AI A N) (hC : CR σ A) (hR : RR σ A) {pc : Nat} {lv : List (Nat × Value)}
    (K : ∀ σ2 A', AI A' (N + 1) → CR σ2 A' → RR σ2 A' → fh_Go E (lw_M p l e s m b below meth c cl sl Z) 4 fh_vU 1545 lv [] σ2 (some ((), σ2)))
    (G : ∀ X2 : fh_S → Option (Unit × fh_S), (∀ σ2, fh_Go E (lw_M p l e s m b below meth c cl sl Z) 4 fh_vU 1545 lv [] σ2 (X2 σ2)) → fh_Go E (lw_M p l e s m b below meth c cl sl Z) 4 fh_vU pc lv [] σ (fh_cb (c2 σ) fun r1 σ1 => fh_cb (r2 σ1) fun r3 σ2 => if T r1 r3 then X2 σ2 else none)) :
    fh_Go E (lw_M p l e s m b below meth c cl sl Z) 4 fh_vU pc lv [] σ (some ((), σ)) := by
  obtain ⟨v, σ1, σ2, A', e1, e2, hA', hC', hR'⟩ := hs N A σ hN hA hC hR
  have g2 : ∀ σ3, fh_Go E (lw_M p l e s m b below meth c cl sl Z) 4 fh_vU 1545 lv [] σ3 (@ite _ (σ3 = σ2) (Classical.propDecidable _) (some ((), σ3)) none) := by
    intro σ3
    by_cases h : σ3 = σ2
    · rw [if_pos h]
      exact K σ3 A' hA' (by rw [h]; exact hC') (by rw [h]; exact hR')
    · rw [if_neg h]
      exact go_none
  have g := G _ g2
  intro r σ' hX H locs ls hP hS hl
  exact g () σ2 (by rw [e1, fh_cb_s, e2, fh_cb_s, if_pos (hT v), if_pos rfl]) H locs ls hP hS hl
end LWB
