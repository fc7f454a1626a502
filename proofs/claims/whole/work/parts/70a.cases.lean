/-! ===== the law: its cases (0) ===== -/
section LWC0
variable {E : fh_E} {p : Program} {l : Launch} {e : Env} {s : State} {m : MethodId} {b : Nat} {below : List Frame} {meth : Method} {c : Code} {cl sl : Nat} {Z : State → Prop} {L : Nat} {xs : Nat → Int32}
set_option maxRecDepth 100000 in
theorem lw_g0 (C : fh_Cx E (lw_M p l e s m b below meth c cl sl Z) code 4 RL ret room_1) (hok : fh_ok E) (hX : va_X b L xs s s.heap) (hbl : b < s.heap.size) (hbA : ¬ fh_A E b) {x3 : Int32} (h1 : vp_in (x3 + 1) L) (h2 : vp_in (x3 + 2) L) (h3 : vp_in (x3 + 3) L) (h4 : vp_in (x3 + 4) L) (h5 : vp_in (x3 + 5) L) {σ : fh_S} {X2 : fh_S → Option (Unit × fh_S)} (K : ∀ σ2, fh_Go E (lw_M p l e s m b below meth c cl sl Z) 4 fh_vU 1545 (lw_lv E b x3) [] σ2 (X2 σ2)) : fh_Go E (lw_M p l e s m b below meth c cl sl Z) 4 fh_vU 240 (lw_lv E b x3) [] σ (fh_cb (f_X4_dial 0 (xs (x3 + 1).toNatClampNeg) σ) fun r1 σ1 => fh_cb (f_X5_dial 44 (xs (x3 + 1).toNatClampNeg) σ1) fun r3 σ2 => if r1 = r3 then X2 σ2 else none) := by
  refine go_aload_n C 2 rfl rfl dL_law_240 ?_
  refine go_aload_n C 3 rfl rfl dL_law_241 ?_
  refine go_iload_n C 0 rfl rfl dL_law_242 ?_
  refine go_iconst C 1 dL_law_243 (by decide) ?_
  refine go_iadd C dL_law_244 ?_
  refine lw_sld C hX hbl hbA h1 dL_law_245 ?_
  refine go_callVI C (st := []) [.int (xs (x3 + 1).toNatClampNeg)] (m_X4_dial E _ hok 0 (xs (x3 + 1).toNatClampNeg) σ) (fun _ h => fh_ob_ok h) rfl rfl ⟨q_163, q_164, q_165, q_1, q_166⟩ pd_X4_dial rfl ⟨⟨(Nat.le_of_ble_eq_true rfl), (Nat.le_of_ble_eq_true rfl)⟩, rfl, rfl⟩ (Nat.le_of_ble_eq_true rfl) dL_law_246 (fun r1 σ1 => ?_)
  refine go_aload_n C 1 rfl rfl dL_law_249 ?_
  refine go_aload_n C 3 rfl rfl dL_law_250 ?_
  refine go_iload_n C 0 rfl rfl dL_law_251 ?_
  refine go_iconst C 1 dL_law_252 (by decide) ?_
  refine go_iadd C dL_law_253 ?_
  refine lw_sld C hX hbl hbA h1 dL_law_254 ?_
  refine go_callVI C (st := [.int r1]) [.int (xs (x3 + 1).toNatClampNeg)] (m_X5_dial E _ hok 44 (xs (x3 + 1).toNatClampNeg) σ1) (fun _ h => fh_ob_ok h) rfl rfl ⟨q_810, q_811, q_812, q_6, q_813⟩ pd_X5_dial rfl ⟨⟨(Nat.le_of_ble_eq_true rfl), (Nat.le_of_ble_eq_true rfl)⟩, rfl, rfl⟩ (Nat.le_of_ble_eq_true rfl) dL_law_255 (fun r3 σ2 => ?_)
  exact go_icmp_eq C dL_law_258 (by decide) (fun _ => K σ2) (fun _ => go_none)
set_option maxRecDepth 100000 in
theorem lw_g1 (C : fh_Cx E (lw_M p l e s m b below meth c cl sl Z) code 4 RL ret room_1) (hok : fh_ok E) (hX : va_X b L xs s s.heap) (hbl : b < s.heap.size) (hbA : ¬ fh_A E b) {x3 : Int32} (h1 : vp_in (x3 + 1) L) (h2 : vp_in (x3 + 2) L) (h3 : vp_in (x3 + 3) L) (h4 : vp_in (x3 + 4) L) (h5 : vp_in (x3 + 5) L) {σ : fh_S} {X2 : fh_S → Option (Unit × fh_S)} (K : ∀ σ2, fh_Go E (lw_M p l e s m b below meth c cl sl Z) 4 fh_vU 1545 (lw_lv E b x3) [] σ2 (X2 σ2)) : fh_Go E (lw_M p l e s m b below meth c cl sl Z) 4 fh_vU 263 (lw_lv E b x3) [] σ (fh_cb (f_X4_of 0 (xs (x3 + 1).toNatClampNeg) (xs (x3 + 2).toNatClampNeg) σ) fun r1 σ1 => fh_cb (f_X5_of 44 (xs (x3 + 1).toNatClampNeg) (xs (x3 + 2).toNatClampNeg) σ1) fun r3 σ2 => if r1 = r3 then X2 σ2 else none) := by
  refine go_aload_n C 2 rfl rfl dL_law_263 ?_
  refine go_aload_n C 3 rfl rfl dL_law_264 ?_
  refine go_iload_n C 0 rfl rfl dL_law_265 ?_
  refine go_iconst C 1 dL_law_266 (by decide) ?_
  refine go_iadd C dL_law_267 ?_
  refine lw_sld C hX hbl hbA h1 dL_law_268 ?_
  refine go_aload_n C 3 rfl rfl dL_law_269 ?_
  refine go_iload_n C 0 rfl rfl dL_law_270 ?_
  refine go_iconst C 2 dL_law_271 (by decide) ?_
  refine go_iadd C dL_law_272 ?_
  refine lw_sld C hX hbl hbA h2 dL_law_273 ?_
  refine go_callVI C (st := []) [.int (xs (x3 + 1).toNatClampNeg), .int (xs (x3 + 2).toNatClampNeg)] (m_X4_of E _ hok 0 (xs (x3 + 1).toNatClampNeg) (xs (x3 + 2).toNatClampNeg) σ) (fun _ h => fh_ob_ok h) rfl rfl ⟨q_192, q_193, q_194, q_1, q_195⟩ pd_X4_of rfl ⟨⟨(Nat.le_of_ble_eq_true rfl), (Nat.le_of_ble_eq_true rfl)⟩, rfl, rfl⟩ (Nat.le_of_ble_eq_true rfl) dL_law_274 (fun r1 σ1 => ?_)
  refine go_aload_n C 1 rfl rfl dL_law_277 ?_
  refine go_aload_n C 3 rfl rfl dL_law_278 ?_
  refine go_iload_n C 0 rfl rfl dL_law_279 ?_
  refine go_iconst C 1 dL_law_280 (by decide) ?_
  refine go_iadd C dL_law_281 ?_
  refine lw_sld C hX hbl hbA h1 dL_law_282 ?_
  refine go_aload_n C 3 rfl rfl dL_law_283 ?_
  refine go_iload_n C 0 rfl rfl dL_law_284 ?_
  refine go_iconst C 2 dL_law_285 (by decide) ?_
  refine go_iadd C dL_law_286 ?_
  refine lw_sld C hX hbl hbA h2 dL_law_287 ?_
  refine go_callVI C (st := [.int r1]) [.int (xs (x3 + 1).toNatClampNeg), .int (xs (x3 + 2).toNatClampNeg)] (m_X5_of E _ hok 44 (xs (x3 + 1).toNatClampNeg) (xs (x3 + 2).toNatClampNeg) σ1) (fun _ h => fh_ob_ok h) rfl rfl ⟨q_833, q_834, q_835, q_6, q_836⟩ pd_X5_of rfl ⟨⟨(Nat.le_of_ble_eq_true rfl), (Nat.le_of_ble_eq_true rfl)⟩, rfl, rfl⟩ (Nat.le_of_ble_eq_true rfl) dL_law_288 (fun r3 σ2 => ?_)
  exact go_icmp_eq C dL_law_291 (by decide) (fun _ => K σ2) (fun _ => go_none)
set_option maxRecDepth 100000 in
theorem lw_g2 (C : fh_Cx E (lw_M p l e s m b below meth c cl sl Z) code 4 RL ret room_1) (hok : fh_ok E) (hX : va_X b L xs s s.heap) (hbl : b < s.heap.size) (hbA : ¬ fh_A E b) {x3 : Int32} (h1 : vp_in (x3 + 1) L) (h2 : vp_in (x3 + 2) L) (h3 : vp_in (x3 + 3) L) (h4 : vp_in (x3 + 4) L) (h5 : vp_in (x3 + 5) L) {σ : fh_S} {X2 : fh_S → Option (Unit × fh_S)} (K : ∀ σ2, fh_Go E (lw_M p l e s m b below meth c cl sl Z) 4 fh_vU 1545 (lw_lv E b x3) [] σ2 (X2 σ2)) : fh_Go E (lw_M p l e s m b below meth c cl sl Z) 4 fh_vU 296 (lw_lv E b x3) [] σ (fh_cb (f_X4_change 0 (xs (x3 + 1).toNatClampNeg) (xs (x3 + 2).toNatClampNeg) (xs (x3 + 3).toNatClampNeg) σ) fun r1 σ1 => fh_cb (f_X5_change 44 (xs (x3 + 1).toNatClampNeg) (xs (x3 + 2).toNatClampNeg) (xs (x3 + 3).toNatClampNeg) σ1) fun r3 σ2 => if r1 = r3 then X2 σ2 else none) := by
  refine go_aload_n C 2 rfl rfl dL_law_296 ?_
  refine go_aload_n C 3 rfl rfl dL_law_297 ?_
  refine go_iload_n C 0 rfl rfl dL_law_298 ?_
  refine go_iconst C 1 dL_law_299 (by decide) ?_
  refine go_iadd C dL_law_300 ?_
  refine lw_sld C hX hbl hbA h1 dL_law_301 ?_
  refine go_aload_n C 3 rfl rfl dL_law_302 ?_
  refine go_iload_n C 0 rfl rfl dL_law_303 ?_
  refine go_iconst C 2 dL_law_304 (by decide) ?_
  refine go_iadd C dL_law_305 ?_
  refine lw_sld C hX hbl hbA h2 dL_law_306 ?_
  refine go_aload_n C 3 rfl rfl dL_law_307 ?_
  refine go_iload_n C 0 rfl rfl dL_law_308 ?_
  refine go_iconst C 3 dL_law_309 (by decide) ?_
  refine go_iadd C dL_law_310 ?_
  refine lw_sld C hX hbl hbA h3 dL_law_311 ?_
  refine go_callVI C (st := []) [.int (xs (x3 + 1).toNatClampNeg), .int (xs (x3 + 2).toNatClampNeg), .int (xs (x3 + 3).toNatClampNeg)] (m_X4_change E _ hok 0 (xs (x3 + 1).toNatClampNeg) (xs (x3 + 2).toNatClampNeg) (xs (x3 + 3).toNatClampNeg) σ) (fun _ h => fh_ob_ok h) rfl rfl ⟨q_221, q_222, q_223, q_1, q_224⟩ pd_X4_change rfl ⟨⟨(Nat.le_of_ble_eq_true rfl), (Nat.le_of_ble_eq_true rfl)⟩, rfl, rfl⟩ (Nat.le_of_ble_eq_true rfl) dL_law_312 (fun r1 σ1 => ?_)
  refine go_aload_n C 1 rfl rfl dL_law_315 ?_
  refine go_aload_n C 3 rfl rfl dL_law_316 ?_
  refine go_iload_n C 0 rfl rfl dL_law_317 ?_
  refine go_iconst C 1 dL_law_318 (by decide) ?_
  refine go_iadd C dL_law_319 ?_
  refine lw_sld C hX hbl hbA h1 dL_law_320 ?_
  refine go_aload_n C 3 rfl rfl dL_law_321 ?_
  refine go_iload_n C 0 rfl rfl dL_law_322 ?_
  refine go_iconst C 2 dL_law_323 (by decide) ?_
  refine go_iadd C dL_law_324 ?_
  refine lw_sld C hX hbl hbA h2 dL_law_325 ?_
  refine go_aload_n C 3 rfl rfl dL_law_326 ?_
  refine go_iload_n C 0 rfl rfl dL_law_327 ?_
  refine go_iconst C 3 dL_law_328 (by decide) ?_
  refine go_iadd C dL_law_329 ?_
  refine lw_sld C hX hbl hbA h3 dL_law_330 ?_
  refine go_callVI C (st := [.int r1]) [.int (xs (x3 + 1).toNatClampNeg), .int (xs (x3 + 2).toNatClampNeg), .int (xs (x3 + 3).toNatClampNeg)] (m_X5_change E _ hok 44 (xs (x3 + 1).toNatClampNeg) (xs (x3 + 2).toNatClampNeg) (xs (x3 + 3).toNatClampNeg) σ1) (fun _ h => fh_ob_ok h) rfl rfl ⟨q_862, q_863, q_864, q_6, q_865⟩ pd_X5_change rfl ⟨⟨(Nat.le_of_ble_eq_true rfl), (Nat.le_of_ble_eq_true rfl)⟩, rfl, rfl⟩ (Nat.le_of_ble_eq_true rfl) dL_law_331 (fun r3 σ2 => ?_)
  exact go_icmp_eq C dL_law_334 (by decide) (fun _ => K σ2) (fun _ => go_none)
set_option maxRecDepth 100000 in
theorem lw_g3 (C : fh_Cx E (lw_M p l e s m b below meth c cl sl Z) code 4 RL ret room_1) (hok : fh_ok E) (hX : va_X b L xs s s.heap) (hbl : b < s.heap.size) (hbA : ¬ fh_A E b) {x3 : Int32} (h1 : vp_in (x3 + 1) L) (h2 : vp_in (x3 + 2) L) (h3 : vp_in (x3 + 3) L) (h4 : vp_in (x3 + 4) L) (h5 : vp_in (x3 + 5) L) {σ : fh_S} {X2 : fh_S → Option (Unit × fh_S)} (K : ∀ σ2, fh_Go E (lw_M p l e s m b below meth c cl sl Z) 4 fh_vU 1545 (lw_lv E b x3) [] σ2 (X2 σ2)) : fh_Go E (lw_M p l e s m b below meth c cl sl Z) 4 fh_vU 339 (lw_lv E b x3) [] σ (fh_cb (f_X4_jog 0 (xs (x3 + 1).toNatClampNeg) (xs (x3 + 2).toNatClampNeg) σ) fun r1 σ1 => fh_cb (f_X5_jog 44 (xs (x3 + 1).toNatClampNeg) (xs (x3 + 2).toNatClampNeg) σ1) fun r3 σ2 => if r1 = r3 then X2 σ2 else none) := by
  refine go_aload_n C 2 rfl rfl dL_law_339 ?_
  refine go_aload_n C 3 rfl rfl dL_law_340 ?_
  refine go_iload_n C 0 rfl rfl dL_law_341 ?_
  refine go_iconst C 1 dL_law_342 (by decide) ?_
  refine go_iadd C dL_law_343 ?_
  refine lw_sld C hX hbl hbA h1 dL_law_344 ?_
  refine go_aload_n C 3 rfl rfl dL_law_345 ?_
  refine go_iload_n C 0 rfl rfl dL_law_346 ?_
  refine go_iconst C 2 dL_law_347 (by decide) ?_
  refine go_iadd C dL_law_348 ?_
  refine lw_sld C hX hbl hbA h2 dL_law_349 ?_
  refine go_callVI C (st := []) [.int (xs (x3 + 1).toNatClampNeg), .int (xs (x3 + 2).toNatClampNeg)] (m_X4_jog E _ hok 0 (xs (x3 + 1).toNatClampNeg) (xs (x3 + 2).toNatClampNeg) σ) (fun _ h => fh_ob_ok h) rfl rfl ⟨q_235, q_236, q_237, q_1, q_238⟩ pd_X4_jog rfl ⟨⟨(Nat.le_of_ble_eq_true rfl), (Nat.le_of_ble_eq_true rfl)⟩, rfl, rfl⟩ (Nat.le_of_ble_eq_true rfl) dL_law_350 (fun r1 σ1 => ?_)
  refine go_aload_n C 1 rfl rfl dL_law_353 ?_
  refine go_aload_n C 3 rfl rfl dL_law_354 ?_
  refine go_iload_n C 0 rfl rfl dL_law_355 ?_
  refine go_iconst C 1 dL_law_356 (by decide) ?_
  refine go_iadd C dL_law_357 ?_
  refine lw_sld C hX hbl hbA h1 dL_law_358 ?_
  refine go_aload_n C 3 rfl rfl dL_law_359 ?_
  refine go_iload_n C 0 rfl rfl dL_law_360 ?_
  refine go_iconst C 2 dL_law_361 (by decide) ?_
  refine go_iadd C dL_law_362 ?_
  refine lw_sld C hX hbl hbA h2 dL_law_363 ?_
  refine go_callVI C (st := [.int r1]) [.int (xs (x3 + 1).toNatClampNeg), .int (xs (x3 + 2).toNatClampNeg)] (m_X5_jog E _ hok 44 (xs (x3 + 1).toNatClampNeg) (xs (x3 + 2).toNatClampNeg) σ1) (fun _ h => fh_ob_ok h) rfl rfl ⟨q_877, q_878, q_879, q_6, q_880⟩ pd_X5_jog rfl ⟨⟨(Nat.le_of_ble_eq_true rfl), (Nat.le_of_ble_eq_true rfl)⟩, rfl, rfl⟩ (Nat.le_of_ble_eq_true rfl) dL_law_364 (fun r3 σ2 => ?_)
  exact go_icmp_eq C dL_law_367 (by decide) (fun _ => K σ2) (fun _ => go_none)
set_option maxRecDepth 100000 in
theorem lw_g4 (C : fh_Cx E (lw_M p l e s m b below meth c cl sl Z) code 4 RL ret room_1) (hok : fh_ok E) (hX : va_X b L xs s s.heap) (hbl : b < s.heap.size) (hbA : ¬ fh_A E b) {x3 : Int32} (h1 : vp_in (x3 + 1) L) (h2 : vp_in (x3 + 2) L) (h3 : vp_in (x3 + 3) L) (h4 : vp_in (x3 + 4) L) (h5 : vp_in (x3 + 5) L) {σ : fh_S} {X2 : fh_S → Option (Unit × fh_S)} (K : ∀ σ2, fh_Go E (lw_M p l e s m b below meth c cl sl Z) 4 fh_vU 1545 (lw_lv E b x3) [] σ2 (X2 σ2)) : fh_Go E (lw_M p l e s m b below meth c cl sl Z) 4 fh_vU 372 (lw_lv E b x3) [] σ (fh_cb (f_X4_stop 0 (xs (x3 + 1).toNatClampNeg) (xs (x3 + 2).toNatClampNeg) σ) fun r1 σ1 => fh_cb (f_X5_stop 44 (xs (x3 + 1).toNatClampNeg) (xs (x3 + 2).toNatClampNeg) σ1) fun r3 σ2 => if r1 = r3 then X2 σ2 else none) := by
  refine go_aload_n C 2 rfl rfl dL_law_372 ?_
  refine go_aload_n C 3 rfl rfl dL_law_373 ?_
  refine go_iload_n C 0 rfl rfl dL_law_374 ?_
  refine go_iconst C 1 dL_law_375 (by decide) ?_
  refine go_iadd C dL_law_376 ?_
  refine lw_sld C hX hbl hbA h1 dL_law_377 ?_
  refine go_aload_n C 3 rfl rfl dL_law_378 ?_
  refine go_iload_n C 0 rfl rfl dL_law_379 ?_
  refine go_iconst C 2 dL_law_380 (by decide) ?_
  refine go_iadd C dL_law_381 ?_
  refine lw_sld C hX hbl hbA h2 dL_law_382 ?_
  refine go_callVI C (st := []) [.int (xs (x3 + 1).toNatClampNeg), .int (xs (x3 + 2).toNatClampNeg)] (m_X4_stop E _ hok 0 (xs (x3 + 1).toNatClampNeg) (xs (x3 + 2).toNatClampNeg) σ) (fun _ h => fh_ob_ok h) rfl rfl ⟨q_249, q_250, q_251, q_1, q_252⟩ pd_X4_stop rfl ⟨⟨(Nat.le_of_ble_eq_true rfl), (Nat.le_of_ble_eq_true rfl)⟩, rfl, rfl⟩ (Nat.le_of_ble_eq_true rfl) dL_law_383 (fun r1 σ1 => ?_)
  refine go_aload_n C 1 rfl rfl dL_law_386 ?_
  refine go_aload_n C 3 rfl rfl dL_law_387 ?_
  refine go_iload_n C 0 rfl rfl dL_law_388 ?_
  refine go_iconst C 1 dL_law_389 (by decide) ?_
  refine go_iadd C dL_law_390 ?_
  refine lw_sld C hX hbl hbA h1 dL_law_391 ?_
  refine go_aload_n C 3 rfl rfl dL_law_392 ?_
  refine go_iload_n C 0 rfl rfl dL_law_393 ?_
  refine go_iconst C 2 dL_law_394 (by decide) ?_
  refine go_iadd C dL_law_395 ?_
  refine lw_sld C hX hbl hbA h2 dL_law_396 ?_
  refine go_callVI C (st := [.int r1]) [.int (xs (x3 + 1).toNatClampNeg), .int (xs (x3 + 2).toNatClampNeg)] (m_X5_stop E _ hok 44 (xs (x3 + 1).toNatClampNeg) (xs (x3 + 2).toNatClampNeg) σ1) (fun _ h => fh_ob_ok h) rfl rfl ⟨q_884, q_885, q_886, q_6, q_887⟩ pd_X5_stop rfl ⟨⟨(Nat.le_of_ble_eq_true rfl), (Nat.le_of_ble_eq_true rfl)⟩, rfl, rfl⟩ (Nat.le_of_ble_eq_true rfl) dL_law_397 (fun r3 σ2 => ?_)
  exact go_icmp_eq C dL_law_400 (by decide) (fun _ => K σ2) (fun _ => go_none)
set_option maxRecDepth 100000 in
theorem lw_g5 (C : fh_Cx E (lw_M p l e s m b below meth c cl sl Z) code 4 RL ret room_1) (hok : fh_ok E) (hX : va_X b L xs s s.heap) (hbl : b < s.heap.size) (hbA : ¬ fh_A E b) {x3 : Int32} (h1 : vp_in (x3 + 1) L) (h2 : vp_in (x3 + 2) L) (h3 : vp_in (x3 + 3) L) (h4 : vp_in (x3 + 4) L) (h5 : vp_in (x3 + 5) L) {σ : fh_S} {X2 : fh_S → Option (Unit × fh_S)} (K : ∀ σ2, fh_Go E (lw_M p l e s m b below meth c cl sl Z) 4 fh_vU 1545 (lw_lv E b x3) [] σ2 (X2 σ2)) : fh_Go E (lw_M p l e s m b below meth c cl sl Z) 4 fh_vU 405 (lw_lv E b x3) [] σ (fh_cb (f_X4_go 0 (xs (x3 + 1).toNatClampNeg) σ) fun r1 σ1 => fh_cb (f_X5_go 44 (xs (x3 + 1).toNatClampNeg) σ1) fun r3 σ2 => if r1 = r3 then X2 σ2 else none) := by
  refine go_aload_n C 2 rfl rfl dL_law_405 ?_
  refine go_aload_n C 3 rfl rfl dL_law_406 ?_
  refine go_iload_n C 0 rfl rfl dL_law_407 ?_
  refine go_iconst C 1 dL_law_408 (by decide) ?_
  refine go_iadd C dL_law_409 ?_
  refine lw_sld C hX hbl hbA h1 dL_law_410 ?_
  refine go_callVI C (st := []) [.int (xs (x3 + 1).toNatClampNeg)] (m_X4_go E _ hok 0 (xs (x3 + 1).toNatClampNeg) σ) (fun _ h => fh_ob_ok h) rfl rfl ⟨q_261, q_262, q_263, q_1, q_264⟩ pd_X4_go rfl ⟨⟨(Nat.le_of_ble_eq_true rfl), (Nat.le_of_ble_eq_true rfl)⟩, rfl, rfl⟩ (Nat.le_of_ble_eq_true rfl) dL_law_411 (fun r1 σ1 => ?_)
  refine go_aload_n C 1 rfl rfl dL_law_414 ?_
  refine go_aload_n C 3 rfl rfl dL_law_415 ?_
  refine go_iload_n C 0 rfl rfl dL_law_416 ?_
  refine go_iconst C 1 dL_law_417 (by decide) ?_
  refine go_iadd C dL_law_418 ?_
  refine lw_sld C hX hbl hbA h1 dL_law_419 ?_
  refine go_callVI C (st := [.int r1]) [.int (xs (x3 + 1).toNatClampNeg)] (m_X5_go E _ hok 44 (xs (x3 + 1).toNatClampNeg) σ1) (fun _ h => fh_ob_ok h) rfl rfl ⟨q_892, q_893, q_894, q_6, q_895⟩ pd_X5_go rfl ⟨⟨(Nat.le_of_ble_eq_true rfl), (Nat.le_of_ble_eq_true rfl)⟩, rfl, rfl⟩ (Nat.le_of_ble_eq_true rfl) dL_law_420 (fun r3 σ2 => ?_)
  exact go_icmp_eq C dL_law_423 (by decide) (fun _ => K σ2) (fun _ => go_none)
set_option maxRecDepth 100000 in
theorem lw_g6 (C : fh_Cx E (lw_M p l e s m b below meth c cl sl Z) code 4 RL ret room_1) (hok : fh_ok E) (hX : va_X b L xs s s.heap) (hbl : b < s.heap.size) (hbA : ¬ fh_A E b) {x3 : Int32} (h1 : vp_in (x3 + 1) L) (h2 : vp_in (x3 + 2) L) (h3 : vp_in (x3 + 3) L) (h4 : vp_in (x3 + 4) L) (h5 : vp_in (x3 + 5) L) {σ : fh_S} {X2 : fh_S → Option (Unit × fh_S)} (K : ∀ σ2, fh_Go E (lw_M p l e s m b below meth c cl sl Z) 4 fh_vU 1545 (lw_lv E b x3) [] σ2 (X2 σ2)) : fh_Go E (lw_M p l e s m b below meth c cl sl Z) 4 fh_vU 428 (lw_lv E b x3) [] σ (fh_cb (f_X4_now 0 (xs (x3 + 1).toNatClampNeg) σ) fun r1 σ1 => fh_cb (f_X5_now 44 (xs (x3 + 1).toNatClampNeg) σ1) fun r3 σ2 => if r1 = r3 then X2 σ2 else none) := by
  refine go_aload_n C 2 rfl rfl dL_law_428 ?_
  refine go_aload_n C 3 rfl rfl dL_law_429 ?_
  refine go_iload_n C 0 rfl rfl dL_law_430 ?_
  refine go_iconst C 1 dL_law_431 (by decide) ?_
  refine go_iadd C dL_law_432 ?_
  refine lw_sld C hX hbl hbA h1 dL_law_433 ?_
  refine go_callVI C (st := []) [.int (xs (x3 + 1).toNatClampNeg)] (m_X4_now E _ hok 0 (xs (x3 + 1).toNatClampNeg) σ) (fun _ h => fh_ob_ok h) rfl rfl ⟨q_278, q_279, q_280, q_1, q_281⟩ pd_X4_now rfl ⟨⟨(Nat.le_of_ble_eq_true rfl), (Nat.le_of_ble_eq_true rfl)⟩, rfl, rfl⟩ (Nat.le_of_ble_eq_true rfl) dL_law_434 (fun r1 σ1 => ?_)
  refine go_aload_n C 1 rfl rfl dL_law_437 ?_
  refine go_aload_n C 3 rfl rfl dL_law_438 ?_
  refine go_iload_n C 0 rfl rfl dL_law_439 ?_
  refine go_iconst C 1 dL_law_440 (by decide) ?_
  refine go_iadd C dL_law_441 ?_
  refine lw_sld C hX hbl hbA h1 dL_law_442 ?_
  refine go_callVI C (st := [.int r1]) [.int (xs (x3 + 1).toNatClampNeg)] (m_X5_now E _ hok 44 (xs (x3 + 1).toNatClampNeg) σ1) (fun _ h => fh_ob_ok h) rfl rfl ⟨q_906, q_907, q_908, q_6, q_909⟩ pd_X5_now rfl ⟨⟨(Nat.le_of_ble_eq_true rfl), (Nat.le_of_ble_eq_true rfl)⟩, rfl, rfl⟩ (Nat.le_of_ble_eq_true rfl) dL_law_443 (fun r3 σ2 => ?_)
  exact go_icmp_eq C dL_law_446 (by decide) (fun _ => K σ2) (fun _ => go_none)
set_option maxRecDepth 100000 in
theorem lw_g7 (C : fh_Cx E (lw_M p l e s m b below meth c cl sl Z) code 4 RL ret room_1) (hok : fh_ok E) (hX : va_X b L xs s s.heap) (hbl : b < s.heap.size) (hbA : ¬ fh_A E b) {x3 : Int32} (h1 : vp_in (x3 + 1) L) (h2 : vp_in (x3 + 2) L) (h3 : vp_in (x3 + 3) L) (h4 : vp_in (x3 + 4) L) (h5 : vp_in (x3 + 5) L) {σ : fh_S} {X2 : fh_S → Option (Unit × fh_S)} (K : ∀ σ2, fh_Go E (lw_M p l e s m b below meth c cl sl Z) 4 fh_vU 1545 (lw_lv E b x3) [] σ2 (X2 σ2)) : fh_Go E (lw_M p l e s m b below meth c cl sl Z) 4 fh_vU 451 (lw_lv E b x3) [] σ (fh_cb (f_X4_way 0 (xs (x3 + 1).toNatClampNeg) σ) fun r1 σ1 => fh_cb (f_X5_way 44 (xs (x3 + 1).toNatClampNeg) σ1) fun r3 σ2 => if r1 = r3 then X2 σ2 else none) := by
  refine go_aload_n C 2 rfl rfl dL_law_451 ?_
  refine go_aload_n C 3 rfl rfl dL_law_452 ?_
  refine go_iload_n C 0 rfl rfl dL_law_453 ?_
  refine go_iconst C 1 dL_law_454 (by decide) ?_
  refine go_iadd C dL_law_455 ?_
  refine lw_sld C hX hbl hbA h1 dL_law_456 ?_
  refine go_callVI C (st := []) [.int (xs (x3 + 1).toNatClampNeg)] (m_X4_way E _ hok 0 (xs (x3 + 1).toNatClampNeg) σ) (fun _ h => fh_ob_ok h) rfl rfl ⟨q_313, q_314, q_315, q_1, q_316⟩ pd_X4_way rfl ⟨⟨(Nat.le_of_ble_eq_true rfl), (Nat.le_of_ble_eq_true rfl)⟩, rfl, rfl⟩ (Nat.le_of_ble_eq_true rfl) dL_law_457 (fun r1 σ1 => ?_)
  refine go_aload_n C 1 rfl rfl dL_law_460 ?_
  refine go_aload_n C 3 rfl rfl dL_law_461 ?_
  refine go_iload_n C 0 rfl rfl dL_law_462 ?_
  refine go_iconst C 1 dL_law_463 (by decide) ?_
  refine go_iadd C dL_law_464 ?_
  refine lw_sld C hX hbl hbA h1 dL_law_465 ?_
  refine go_callVI C (st := [.int r1]) [.int (xs (x3 + 1).toNatClampNeg)] (m_X5_way E _ hok 44 (xs (x3 + 1).toNatClampNeg) σ1) (fun _ h => fh_ob_ok h) rfl rfl ⟨q_937, q_938, q_939, q_6, q_940⟩ pd_X5_way rfl ⟨⟨(Nat.le_of_ble_eq_true rfl), (Nat.le_of_ble_eq_true rfl)⟩, rfl, rfl⟩ (Nat.le_of_ble_eq_true rfl) dL_law_466 (fun r3 σ2 => ?_)
  exact go_icmp_eq C dL_law_469 (by decide) (fun _ => K σ2) (fun _ => go_none)
set_option maxRecDepth 100000 in
theorem lw_g8 (C : fh_Cx E (lw_M p l e s m b below meth c cl sl Z) code 4 RL ret room_1) (hok : fh_ok E) (hX : va_X b L xs s s.heap) (hbl : b < s.heap.size) (hbA : ¬ fh_A E b) {x3 : Int32} (h1 : vp_in (x3 + 1) L) (h2 : vp_in (x3 + 2) L) (h3 : vp_in (x3 + 3) L) (h4 : vp_in (x3 + 4) L) (h5 : vp_in (x3 + 5) L) {σ : fh_S} {X2 : fh_S → Option (Unit × fh_S)} (K : ∀ σ2, fh_Go E (lw_M p l e s m b below meth c cl sl Z) 4 fh_vU 1545 (lw_lv E b x3) [] σ2 (X2 σ2)) : fh_Go E (lw_M p l e s m b below meth c cl sl Z) 4 fh_vU 474 (lw_lv E b x3) [] σ (fh_cb (f_X4_ring 0 (xs (x3 + 1).toNatClampNeg) σ) fun r1 σ1 => fh_cb (f_X5_ring 44 (xs (x3 + 1).toNatClampNeg) σ1) fun r3 σ2 => if r1 = r3 then X2 σ2 else none) := by
  refine go_aload_n C 2 rfl rfl dL_law_474 ?_
  refine go_aload_n C 3 rfl rfl dL_law_475 ?_
  refine go_iload_n C 0 rfl rfl dL_law_476 ?_
  refine go_iconst C 1 dL_law_477 (by decide) ?_
  refine go_iadd C dL_law_478 ?_
  refine lw_sld C hX hbl hbA h1 dL_law_479 ?_
  refine go_callVI C (st := []) [.int (xs (x3 + 1).toNatClampNeg)] (m_X4_ring E _ hok 0 (xs (x3 + 1).toNatClampNeg) σ) (fun _ h => fh_ob_ok h) rfl rfl ⟨q_321, q_322, q_323, q_1, q_324⟩ pd_X4_ring rfl ⟨⟨(Nat.le_of_ble_eq_true rfl), (Nat.le_of_ble_eq_true rfl)⟩, rfl, rfl⟩ (Nat.le_of_ble_eq_true rfl) dL_law_480 (fun r1 σ1 => ?_)
  refine go_aload_n C 1 rfl rfl dL_law_483 ?_
  refine go_aload_n C 3 rfl rfl dL_law_484 ?_
  refine go_iload_n C 0 rfl rfl dL_law_485 ?_
  refine go_iconst C 1 dL_law_486 (by decide) ?_
  refine go_iadd C dL_law_487 ?_
  refine lw_sld C hX hbl hbA h1 dL_law_488 ?_
  refine go_callVI C (st := [.int r1]) [.int (xs (x3 + 1).toNatClampNeg)] (m_X5_ring E _ hok 44 (xs (x3 + 1).toNatClampNeg) σ1) (fun _ h => fh_ob_ok h) rfl rfl ⟨q_948, q_949, q_950, q_6, q_951⟩ pd_X5_ring rfl ⟨⟨(Nat.le_of_ble_eq_true rfl), (Nat.le_of_ble_eq_true rfl)⟩, rfl, rfl⟩ (Nat.le_of_ble_eq_true rfl) dL_law_489 (fun r3 σ2 => ?_)
  exact go_icmp_eq C dL_law_492 (by decide) (fun _ => K σ2) (fun _ => go_none)
set_option maxRecDepth 100000 in
theorem lw_g9 (C : fh_Cx E (lw_M p l e s m b below meth c cl sl Z) code 4 RL ret room_1) (hok : fh_ok E) (hX : va_X b L xs s s.heap) (hbl : b < s.heap.size) (hbA : ¬ fh_A E b) {x3 : Int32} (h1 : vp_in (x3 + 1) L) (h2 : vp_in (x3 + 2) L) (h3 : vp_in (x3 + 3) L) (h4 : vp_in (x3 + 4) L) (h5 : vp_in (x3 + 5) L) {σ : fh_S} {X2 : fh_S → Option (Unit × fh_S)} (K : ∀ σ2, fh_Go E (lw_M p l e s m b below meth c cl sl Z) 4 fh_vU 1545 (lw_lv E b x3) [] σ2 (X2 σ2)) : fh_Go E (lw_M p l e s m b below meth c cl sl Z) 4 fh_vU 497 (lw_lv E b x3) [] σ (fh_cb (f_X4_rings 0  σ) fun r1 σ1 => fh_cb (f_X5_rings 44  σ1) fun r3 σ2 => if r1 = r3 then X2 σ2 else none) := by
  refine go_aload_n C 2 rfl rfl dL_law_497 ?_
  refine go_callVI C (st := []) [] (m_X4_rings E _ hok 0 σ) (fun _ h => fh_ob_ok h) rfl rfl ⟨q_330, q_331, q_332, q_1, q_333⟩ pd_X4_rings rfl ⟨⟨(Nat.le_of_ble_eq_true rfl), (Nat.le_of_ble_eq_true rfl)⟩, rfl, rfl⟩ (Nat.le_of_ble_eq_true rfl) dL_law_498 (fun r1 σ1 => ?_)
  refine go_aload_n C 1 rfl rfl dL_law_501 ?_
  refine go_callVI C (st := [.int r1]) [] (m_X5_rings E _ hok 44 σ1) (fun _ h => fh_ob_ok h) rfl rfl ⟨q_956, q_957, q_958, q_6, q_959⟩ pd_X5_rings rfl ⟨⟨(Nat.le_of_ble_eq_true rfl), (Nat.le_of_ble_eq_true rfl)⟩, rfl, rfl⟩ (Nat.le_of_ble_eq_true rfl) dL_law_502 (fun r3 σ2 => ?_)
  exact go_icmp_eq C dL_law_505 (by decide) (fun _ => K σ2) (fun _ => go_none)
set_option maxRecDepth 100000 in
theorem lw_g10 (C : fh_Cx E (lw_M p l e s m b below meth c cl sl Z) code 4 RL ret room_1) (hok : fh_ok E) (hX : va_X b L xs s s.heap) (hbl : b < s.heap.size) (hbA : ¬ fh_A E b) {x3 : Int32} (h1 : vp_in (x3 + 1) L) (h2 : vp_in (x3 + 2) L) (h3 : vp_in (x3 + 3) L) (h4 : vp_in (x3 + 4) L) (h5 : vp_in (x3 + 5) L) {σ : fh_S} {X2 : fh_S → Option (Unit × fh_S)} (K : ∀ σ2, fh_Go E (lw_M p l e s m b below meth c cl sl Z) 4 fh_vU 1545 (lw_lv E b x3) [] σ2 (X2 σ2)) : fh_Go E (lw_M p l e s m b below meth c cl sl Z) 4 fh_vU 510 (lw_lv E b x3) [] σ (fh_cb (f_X4_before 0 (xs (x3 + 1).toNatClampNeg) σ) fun r1 σ1 => fh_cb (f_X5_before 44 (xs (x3 + 1).toNatClampNeg) σ1) fun r3 σ2 => if r1 = r3 then X2 σ2 else none) := by
  refine go_aload_n C 2 rfl rfl dL_law_510 ?_
  refine go_aload_n C 3 rfl rfl dL_law_511 ?_
  refine go_iload_n C 0 rfl rfl dL_law_512 ?_
  refine go_iconst C 1 dL_law_513 (by decide) ?_
  refine go_iadd C dL_law_514 ?_
  refine lw_sld C hX hbl hbA h1 dL_law_515 ?_
  refine go_callVI C (st := []) [.int (xs (x3 + 1).toNatClampNeg)] (m_X4_before E _ hok 0 (xs (x3 + 1).toNatClampNeg) σ) (fun _ h => fh_ob_ok h) rfl rfl ⟨q_346, q_347, q_348, q_1, q_349⟩ pd_X4_before rfl ⟨⟨(Nat.le_of_ble_eq_true rfl), (Nat.le_of_ble_eq_true rfl)⟩, rfl, rfl⟩ (Nat.le_of_ble_eq_true rfl) dL_law_516 (fun r1 σ1 => ?_)
  refine go_aload_n C 1 rfl rfl dL_law_519 ?_
  refine go_aload_n C 3 rfl rfl dL_law_520 ?_
  refine go_iload_n C 0 rfl rfl dL_law_521 ?_
  refine go_iconst C 1 dL_law_522 (by decide) ?_
  refine go_iadd C dL_law_523 ?_
  refine lw_sld C hX hbl hbA h1 dL_law_524 ?_
  refine go_callVI C (st := [.int r1]) [.int (xs (x3 + 1).toNatClampNeg)] (m_X5_before E _ hok 44 (xs (x3 + 1).toNatClampNeg) σ1) (fun _ h => fh_ob_ok h) rfl rfl ⟨q_964, q_965, q_966, q_6, q_967⟩ pd_X5_before rfl ⟨⟨(Nat.le_of_ble_eq_true rfl), (Nat.le_of_ble_eq_true rfl)⟩, rfl, rfl⟩ (Nat.le_of_ble_eq_true rfl) dL_law_525 (fun r3 σ2 => ?_)
  exact go_icmp_eq C dL_law_528 (by decide) (fun _ => K σ2) (fun _ => go_none)
set_option maxRecDepth 100000 in
theorem lw_g11 (C : fh_Cx E (lw_M p l e s m b below meth c cl sl Z) code 4 RL ret room_1) (hok : fh_ok E) (hX : va_X b L xs s s.heap) (hbl : b < s.heap.size) (hbA : ¬ fh_A E b) {x3 : Int32} (h1 : vp_in (x3 + 1) L) (h2 : vp_in (x3 + 2) L) (h3 : vp_in (x3 + 3) L) (h4 : vp_in (x3 + 4) L) (h5 : vp_in (x3 + 5) L) {σ : fh_S} {X2 : fh_S → Option (Unit × fh_S)} (K : ∀ σ2, fh_Go E (lw_M p l e s m b below meth c cl sl Z) 4 fh_vU 1545 (lw_lv E b x3) [] σ2 (X2 σ2)) : fh_Go E (lw_M p l e s m b below meth c cl sl Z) 4 fh_vU 533 (lw_lv E b x3) [] σ (fh_cb (f_X4_under 0 (xs (x3 + 1).toNatClampNeg) σ) fun r1 σ1 => fh_cb (f_X5_under 44 (xs (x3 + 1).toNatClampNeg) σ1) fun r3 σ2 => if r1 = r3 then X2 σ2 else none) := by
  refine go_aload_n C 2 rfl rfl dL_law_533 ?_
  refine go_aload_n C 3 rfl rfl dL_law_534 ?_
  refine go_iload_n C 0 rfl rfl dL_law_535 ?_
  refine go_iconst C 1 dL_law_536 (by decide) ?_
  refine go_iadd C dL_law_537 ?_
  refine lw_sld C hX hbl hbA h1 dL_law_538 ?_
  refine go_callVI C (st := []) [.int (xs (x3 + 1).toNatClampNeg)] (m_X4_under E _ hok 0 (xs (x3 + 1).toNatClampNeg) σ) (fun _ h => fh_ob_ok h) rfl rfl ⟨q_357, q_358, q_359, q_1, q_360⟩ pd_X4_under rfl ⟨⟨(Nat.le_of_ble_eq_true rfl), (Nat.le_of_ble_eq_true rfl)⟩, rfl, rfl⟩ (Nat.le_of_ble_eq_true rfl) dL_law_539 (fun r1 σ1 => ?_)
  refine go_aload_n C 1 rfl rfl dL_law_542 ?_
  refine go_aload_n C 3 rfl rfl dL_law_543 ?_
  refine go_iload_n C 0 rfl rfl dL_law_544 ?_
  refine go_iconst C 1 dL_law_545 (by decide) ?_
  refine go_iadd C dL_law_546 ?_
  refine lw_sld C hX hbl hbA h1 dL_law_547 ?_
  refine go_callVI C (st := [.int r1]) [.int (xs (x3 + 1).toNatClampNeg)] (m_X5_under E _ hok 44 (xs (x3 + 1).toNatClampNeg) σ1) (fun _ h => fh_ob_ok h) rfl rfl ⟨q_968, q_969, q_970, q_6, q_971⟩ pd_X5_under rfl ⟨⟨(Nat.le_of_ble_eq_true rfl), (Nat.le_of_ble_eq_true rfl)⟩, rfl, rfl⟩ (Nat.le_of_ble_eq_true rfl) dL_law_548 (fun r3 σ2 => ?_)
  exact go_icmp_eq C dL_law_551 (by decide) (fun _ => K σ2) (fun _ => go_none)
set_option maxRecDepth 100000 in
theorem lw_g12 (C : fh_Cx E (lw_M p l e s m b below meth c cl sl Z) code 4 RL ret room_1) (hok : fh_ok E) (hX : va_X b L xs s s.heap) (hbl : b < s.heap.size) (hbA : ¬ fh_A E b) {x3 : Int32} (h1 : vp_in (x3 + 1) L) (h2 : vp_in (x3 + 2) L) (h3 : vp_in (x3 + 3) L) (h4 : vp_in (x3 + 4) L) (h5 : vp_in (x3 + 5) L) {σ : fh_S} {X2 : fh_S → Option (Unit × fh_S)} (K : ∀ σ2, fh_Go E (lw_M p l e s m b below meth c cl sl Z) 4 fh_vU 1545 (lw_lv E b x3) [] σ2 (X2 σ2)) : fh_Go E (lw_M p l e s m b below meth c cl sl Z) 4 fh_vU 556 (lw_lv E b x3) [] σ (fh_cb (f_X4_greatest 0  σ) fun r1 σ1 => fh_cb (f_X5_greatest 44  σ1) fun r3 σ2 => if r1 = r3 then X2 σ2 else none) := by
  refine go_aload_n C 2 rfl rfl dL_law_556 ?_
  refine go_callVI C (st := []) [] (m_X4_greatest E _ hok 0 σ) (fun _ h => fh_ob_ok h) rfl rfl ⟨q_365, q_366, q_367, q_1, q_368⟩ pd_X4_greatest rfl ⟨⟨(Nat.le_of_ble_eq_true rfl), (Nat.le_of_ble_eq_true rfl)⟩, rfl, rfl⟩ (Nat.le_of_ble_eq_true rfl) dL_law_557 (fun r1 σ1 => ?_)
  refine go_aload_n C 1 rfl rfl dL_law_560 ?_
  refine go_callVI C (st := [.int r1]) [] (m_X5_greatest E _ hok 44 σ1) (fun _ h => fh_ob_ok h) rfl rfl ⟨q_976, q_977, q_978, q_6, q_979⟩ pd_X5_greatest rfl ⟨⟨(Nat.le_of_ble_eq_true rfl), (Nat.le_of_ble_eq_true rfl)⟩, rfl, rfl⟩ (Nat.le_of_ble_eq_true rfl) dL_law_561 (fun r3 σ2 => ?_)
  exact go_icmp_eq C dL_law_564 (by decide) (fun _ => K σ2) (fun _ => go_none)
set_option maxRecDepth 100000 in
theorem lw_g13 (C : fh_Cx E (lw_M p l e s m b below meth c cl sl Z) code 4 RL ret room_1) (hok : fh_ok E) (hX : va_X b L xs s s.heap) (hbl : b < s.heap.size) (hbA : ¬ fh_A E b) {x3 : Int32} (h1 : vp_in (x3 + 1) L) (h2 : vp_in (x3 + 2) L) (h3 : vp_in (x3 + 3) L) (h4 : vp_in (x3 + 4) L) (h5 : vp_in (x3 + 5) L) {σ : fh_S} {X2 : fh_S → Option (Unit × fh_S)} (K : ∀ σ2, fh_Go E (lw_M p l e s m b below meth c cl sl Z) 4 fh_vU 1545 (lw_lv E b x3) [] σ2 (X2 σ2)) : fh_Go E (lw_M p l e s m b below meth c cl sl Z) 4 fh_vU 569 (lw_lv E b x3) [] σ (fh_cb (f_X4_ahead 0 (xs (x3 + 1).toNatClampNeg) (xs (x3 + 2).toNatClampNeg) σ) fun r1 σ1 => fh_cb (f_X5_ahead 44 (xs (x3 + 1).toNatClampNeg) (xs (x3 + 2).toNatClampNeg) σ1) fun r3 σ2 => if r1 = r3 then X2 σ2 else none) := by
  refine go_aload_n C 2 rfl rfl dL_law_569 ?_
  refine go_aload_n C 3 rfl rfl dL_law_570 ?_
  refine go_iload_n C 0 rfl rfl dL_law_571 ?_
  refine go_iconst C 1 dL_law_572 (by decide) ?_
  refine go_iadd C dL_law_573 ?_
  refine lw_sld C hX hbl hbA h1 dL_law_574 ?_
  refine go_aload_n C 3 rfl rfl dL_law_575 ?_
  refine go_iload_n C 0 rfl rfl dL_law_576 ?_
  refine go_iconst C 2 dL_law_577 (by decide) ?_
  refine go_iadd C dL_law_578 ?_
  refine lw_sld C hX hbl hbA h2 dL_law_579 ?_
  refine go_callVI C (st := []) [.int (xs (x3 + 1).toNatClampNeg), .int (xs (x3 + 2).toNatClampNeg)] (m_X4_ahead E _ hok 0 (xs (x3 + 1).toNatClampNeg) (xs (x3 + 2).toNatClampNeg) σ) (fun _ h => fh_ob_ok h) rfl rfl ⟨q_370, q_371, q_372, q_1, q_373⟩ pd_X4_ahead rfl ⟨⟨(Nat.le_of_ble_eq_true rfl), (Nat.le_of_ble_eq_true rfl)⟩, rfl, rfl⟩ (Nat.le_of_ble_eq_true rfl) dL_law_580 (fun r1 σ1 => ?_)
  refine go_aload_n C 1 rfl rfl dL_law_583 ?_
  refine go_aload_n C 3 rfl rfl dL_law_584 ?_
  refine go_iload_n C 0 rfl rfl dL_law_585 ?_
  refine go_iconst C 1 dL_law_586 (by decide) ?_
  refine go_iadd C dL_law_587 ?_
  refine lw_sld C hX hbl hbA h1 dL_law_588 ?_
  refine go_aload_n C 3 rfl rfl dL_law_589 ?_
  refine go_iload_n C 0 rfl rfl dL_law_590 ?_
  refine go_iconst C 2 dL_law_591 (by decide) ?_
  refine go_iadd C dL_law_592 ?_
  refine lw_sld C hX hbl hbA h2 dL_law_593 ?_
  refine go_callVI C (st := [.int r1]) [.int (xs (x3 + 1).toNatClampNeg), .int (xs (x3 + 2).toNatClampNeg)] (m_X5_ahead E _ hok 44 (xs (x3 + 1).toNatClampNeg) (xs (x3 + 2).toNatClampNeg) σ1) (fun _ h => fh_ob_ok h) rfl rfl ⟨q_985, q_986, q_987, q_6, q_988⟩ pd_X5_ahead rfl ⟨⟨(Nat.le_of_ble_eq_true rfl), (Nat.le_of_ble_eq_true rfl)⟩, rfl, rfl⟩ (Nat.le_of_ble_eq_true rfl) dL_law_594 (fun r3 σ2 => ?_)
  exact go_icmp_eq C dL_law_597 (by decide) (fun _ => K σ2) (fun _ => go_none)
set_option maxRecDepth 100000 in
theorem lw_g14 (C : fh_Cx E (lw_M p l e s m b below meth c cl sl Z) code 4 RL ret room_1) (hok : fh_ok E) (hX : va_X b L xs s s.heap) (hbl : b < s.heap.size) (hbA : ¬ fh_A E b) {x3 : Int32} (h1 : vp_in (x3 + 1) L) (h2 : vp_in (x3 + 2) L) (h3 : vp_in (x3 + 3) L) (h4 : vp_in (x3 + 4) L) (h5 : vp_in (x3 + 5) L) {σ : fh_S} {X2 : fh_S → Option (Unit × fh_S)} (K : ∀ σ2, fh_Go E (lw_M p l e s m b below meth c cl sl Z) 4 fh_vU 1545 (lw_lv E b x3) [] σ2 (X2 σ2)) : fh_Go E (lw_M p l e s m b below meth c cl sl Z) 4 fh_vU 602 (lw_lv E b x3) [] σ (fh_cb (f_X4_going 0 (xs (x3 + 1).toNatClampNeg) (xs (x3 + 2).toNatClampNeg) σ) fun r1 σ1 => fh_cb (f_X5_going 44 (xs (x3 + 1).toNatClampNeg) (xs (x3 + 2).toNatClampNeg) σ1) fun r3 σ2 => if r1 = r3 then X2 σ2 else none) := by
  refine go_aload_n C 2 rfl rfl dL_law_602 ?_
  refine go_aload_n C 3 rfl rfl dL_law_603 ?_
  refine go_iload_n C 0 rfl rfl dL_law_604 ?_
  refine go_iconst C 1 dL_law_605 (by decide) ?_
  refine go_iadd C dL_law_606 ?_
  refine lw_sld C hX hbl hbA h1 dL_law_607 ?_
  refine go_aload_n C 3 rfl rfl dL_law_608 ?_
  refine go_iload_n C 0 rfl rfl dL_law_609 ?_
  refine go_iconst C 2 dL_law_610 (by decide) ?_
  refine go_iadd C dL_law_611 ?_
  refine lw_sld C hX hbl hbA h2 dL_law_612 ?_
  refine go_callVI C (st := []) [.int (xs (x3 + 1).toNatClampNeg), .int (xs (x3 + 2).toNatClampNeg)] (m_X4_going E _ hok 0 (xs (x3 + 1).toNatClampNeg) (xs (x3 + 2).toNatClampNeg) σ) (fun _ h => fh_ob_ok h) rfl rfl ⟨q_385, q_386, q_387, q_1, q_388⟩ pd_X4_going rfl ⟨⟨(Nat.le_of_ble_eq_true rfl), (Nat.le_of_ble_eq_true rfl)⟩, rfl, rfl⟩ (Nat.le_of_ble_eq_true rfl) dL_law_613 (fun r1 σ1 => ?_)
  refine go_aload_n C 1 rfl rfl dL_law_616 ?_
  refine go_aload_n C 3 rfl rfl dL_law_617 ?_
  refine go_iload_n C 0 rfl rfl dL_law_618 ?_
  refine go_iconst C 1 dL_law_619 (by decide) ?_
  refine go_iadd C dL_law_620 ?_
  refine lw_sld C hX hbl hbA h1 dL_law_621 ?_
  refine go_aload_n C 3 rfl rfl dL_law_622 ?_
  refine go_iload_n C 0 rfl rfl dL_law_623 ?_
  refine go_iconst C 2 dL_law_624 (by decide) ?_
  refine go_iadd C dL_law_625 ?_
  refine lw_sld C hX hbl hbA h2 dL_law_626 ?_
  refine go_callVI C (st := [.int r1]) [.int (xs (x3 + 1).toNatClampNeg), .int (xs (x3 + 2).toNatClampNeg)] (m_X5_going E _ hok 44 (xs (x3 + 1).toNatClampNeg) (xs (x3 + 2).toNatClampNeg) σ1) (fun _ h => fh_ob_ok h) rfl rfl ⟨q_1000, q_1001, q_1002, q_6, q_1003⟩ pd_X5_going rfl ⟨⟨(Nat.le_of_ble_eq_true rfl), (Nat.le_of_ble_eq_true rfl)⟩, rfl, rfl⟩ (Nat.le_of_ble_eq_true rfl) dL_law_627 (fun r3 σ2 => ?_)
  exact go_icmp_eq C dL_law_630 (by decide) (fun _ => K σ2) (fun _ => go_none)
set_option maxRecDepth 100000 in
theorem lw_g15 (C : fh_Cx E (lw_M p l e s m b below meth c cl sl Z) code 4 RL ret room_1) (hok : fh_ok E) (hX : va_X b L xs s s.heap) (hbl : b < s.heap.size) (hbA : ¬ fh_A E b) {x3 : Int32} (h1 : vp_in (x3 + 1) L) (h2 : vp_in (x3 + 2) L) (h3 : vp_in (x3 + 3) L) (h4 : vp_in (x3 + 4) L) (h5 : vp_in (x3 + 5) L) {σ : fh_S} {X2 : fh_S → Option (Unit × fh_S)} (K : ∀ σ2, fh_Go E (lw_M p l e s m b below meth c cl sl Z) 4 fh_vU 1545 (lw_lv E b x3) [] σ2 (X2 σ2)) : fh_Go E (lw_M p l e s m b below meth c cl sl Z) 4 fh_vU 635 (lw_lv E b x3) [] σ (fh_cb (f_X4_shows 0 (xs (x3 + 1).toNatClampNeg) (xs (x3 + 2).toNatClampNeg) σ) fun r1 σ1 => fh_cb (f_X5_shows 44 (xs (x3 + 1).toNatClampNeg) (xs (x3 + 2).toNatClampNeg) σ1) fun r3 σ2 => if r1 = r3 then X2 σ2 else none) := by
  refine go_aload_n C 2 rfl rfl dL_law_635 ?_
  refine go_aload_n C 3 rfl rfl dL_law_636 ?_
  refine go_iload_n C 0 rfl rfl dL_law_637 ?_
  refine go_iconst C 1 dL_law_638 (by decide) ?_
  refine go_iadd C dL_law_639 ?_
  refine lw_sld C hX hbl hbA h1 dL_law_640 ?_
  refine go_aload_n C 3 rfl rfl dL_law_641 ?_
  refine go_iload_n C 0 rfl rfl dL_law_642 ?_
  refine go_iconst C 2 dL_law_643 (by decide) ?_
  refine go_iadd C dL_law_644 ?_
  refine lw_sld C hX hbl hbA h2 dL_law_645 ?_
  refine go_callVI C (st := []) [.int (xs (x3 + 1).toNatClampNeg), .int (xs (x3 + 2).toNatClampNeg)] (m_X4_shows E _ hok 0 (xs (x3 + 1).toNatClampNeg) (xs (x3 + 2).toNatClampNeg) σ) (fun _ h => fh_ob_ok h) rfl rfl ⟨q_389, q_390, q_391, q_1, q_392⟩ pd_X4_shows rfl ⟨⟨(Nat.le_of_ble_eq_true rfl), (Nat.le_of_ble_eq_true rfl)⟩, rfl, rfl⟩ (Nat.le_of_ble_eq_true rfl) dL_law_646 (fun r1 σ1 => ?_)
  refine go_aload_n C 1 rfl rfl dL_law_649 ?_
  refine go_aload_n C 3 rfl rfl dL_law_650 ?_
  refine go_iload_n C 0 rfl rfl dL_law_651 ?_
  refine go_iconst C 1 dL_law_652 (by decide) ?_
  refine go_iadd C dL_law_653 ?_
  refine lw_sld C hX hbl hbA h1 dL_law_654 ?_
  refine go_aload_n C 3 rfl rfl dL_law_655 ?_
  refine go_iload_n C 0 rfl rfl dL_law_656 ?_
  refine go_iconst C 2 dL_law_657 (by decide) ?_
  refine go_iadd C dL_law_658 ?_
  refine lw_sld C hX hbl hbA h2 dL_law_659 ?_
  refine go_callVI C (st := [.int r1]) [.int (xs (x3 + 1).toNatClampNeg), .int (xs (x3 + 2).toNatClampNeg)] (m_X5_shows E _ hok 44 (xs (x3 + 1).toNatClampNeg) (xs (x3 + 2).toNatClampNeg) σ1) (fun _ h => fh_ob_ok h) rfl rfl ⟨q_1004, q_1005, q_1006, q_6, q_1007⟩ pd_X5_shows rfl ⟨⟨(Nat.le_of_ble_eq_true rfl), (Nat.le_of_ble_eq_true rfl)⟩, rfl, rfl⟩ (Nat.le_of_ble_eq_true rfl) dL_law_660 (fun r3 σ2 => ?_)
  exact go_icmp_eq C dL_law_663 (by decide) (fun _ => K σ2) (fun _ => go_none)
set_option maxRecDepth 100000 in
theorem lw_g16 (C : fh_Cx E (lw_M p l e s m b below meth c cl sl Z) code 4 RL ret room_1) (hok : fh_ok E) (hX : va_X b L xs s s.heap) (hbl : b < s.heap.size) (hbA : ¬ fh_A E b) {x3 : Int32} (h1 : vp_in (x3 + 1) L) (h2 : vp_in (x3 + 2) L) (h3 : vp_in (x3 + 3) L) (h4 : vp_in (x3 + 4) L) (h5 : vp_in (x3 + 5) L) {σ : fh_S} {X2 : fh_S → Option (Unit × fh_S)} (K : ∀ σ2, fh_Go E (lw_M p l e s m b below meth c cl sl Z) 4 fh_vU 1545 (lw_lv E b x3) [] σ2 (X2 σ2)) : fh_Go E (lw_M p l e s m b below meth c cl sl Z) 4 fh_vU 668 (lw_lv E b x3) [] σ (fh_cb (f_X4_meet 0 (xs (x3 + 1).toNatClampNeg) (xs (x3 + 2).toNatClampNeg) σ) fun r1 σ1 => fh_cb (f_X5_meet 44 (xs (x3 + 1).toNatClampNeg) (xs (x3 + 2).toNatClampNeg) σ1) fun r3 σ2 => if r1 = r3 then X2 σ2 else none) := by
  refine go_aload_n C 2 rfl rfl dL_law_668 ?_
  refine go_aload_n C 3 rfl rfl dL_law_669 ?_
  refine go_iload_n C 0 rfl rfl dL_law_670 ?_
  refine go_iconst C 1 dL_law_671 (by decide) ?_
  refine go_iadd C dL_law_672 ?_
  refine lw_sld C hX hbl hbA h1 dL_law_673 ?_
  refine go_aload_n C 3 rfl rfl dL_law_674 ?_
  refine go_iload_n C 0 rfl rfl dL_law_675 ?_
  refine go_iconst C 2 dL_law_676 (by decide) ?_
  refine go_iadd C dL_law_677 ?_
  refine lw_sld C hX hbl hbA h2 dL_law_678 ?_
  refine go_callVI C (st := []) [.int (xs (x3 + 1).toNatClampNeg), .int (xs (x3 + 2).toNatClampNeg)] (m_X4_meet E _ hok 0 (xs (x3 + 1).toNatClampNeg) (xs (x3 + 2).toNatClampNeg) σ) (fun _ h => fh_ob_ok h) rfl rfl ⟨q_395, q_396, q_397, q_1, q_398⟩ pd_X4_meet rfl ⟨⟨(Nat.le_of_ble_eq_true rfl), (Nat.le_of_ble_eq_true rfl)⟩, rfl, rfl⟩ (Nat.le_of_ble_eq_true rfl) dL_law_679 (fun r1 σ1 => ?_)
  refine go_aload_n C 1 rfl rfl dL_law_682 ?_
  refine go_aload_n C 3 rfl rfl dL_law_683 ?_
  refine go_iload_n C 0 rfl rfl dL_law_684 ?_
  refine go_iconst C 1 dL_law_685 (by decide) ?_
  refine go_iadd C dL_law_686 ?_
  refine lw_sld C hX hbl hbA h1 dL_law_687 ?_
  refine go_aload_n C 3 rfl rfl dL_law_688 ?_
  refine go_iload_n C 0 rfl rfl dL_law_689 ?_
  refine go_iconst C 2 dL_law_690 (by decide) ?_
  refine go_iadd C dL_law_691 ?_
  refine lw_sld C hX hbl hbA h2 dL_law_692 ?_
  refine go_callVI C (st := [.int r1]) [.int (xs (x3 + 1).toNatClampNeg), .int (xs (x3 + 2).toNatClampNeg)] (m_X5_meet E _ hok 44 (xs (x3 + 1).toNatClampNeg) (xs (x3 + 2).toNatClampNeg) σ1) (fun _ h => fh_ob_ok h) rfl rfl ⟨q_1008, q_1009, q_1010, q_6, q_1011⟩ pd_X5_meet rfl ⟨⟨(Nat.le_of_ble_eq_true rfl), (Nat.le_of_ble_eq_true rfl)⟩, rfl, rfl⟩ (Nat.le_of_ble_eq_true rfl) dL_law_693 (fun r3 σ2 => ?_)
  exact go_icmp_eq C dL_law_696 (by decide) (fun _ => K σ2) (fun _ => go_none)
set_option maxRecDepth 100000 in
theorem lw_g17 (C : fh_Cx E (lw_M p l e s m b below meth c cl sl Z) code 4 RL ret room_1) (hok : fh_ok E) (hX : va_X b L xs s s.heap) (hbl : b < s.heap.size) (hbA : ¬ fh_A E b) {x3 : Int32} (h1 : vp_in (x3 + 1) L) (h2 : vp_in (x3 + 2) L) (h3 : vp_in (x3 + 3) L) (h4 : vp_in (x3 + 4) L) (h5 : vp_in (x3 + 5) L) {σ : fh_S} {X2 : fh_S → Option (Unit × fh_S)} (K : ∀ σ2, fh_Go E (lw_M p l e s m b below meth c cl sl Z) 4 fh_vU 1545 (lw_lv E b x3) [] σ2 (X2 σ2)) : fh_Go E (lw_M p l e s m b below meth c cl sl Z) 4 fh_vU 701 (lw_lv E b x3) [] σ (fh_cb (f_X4_halts 0 (xs (x3 + 1).toNatClampNeg) σ) fun r1 σ1 => fh_cb (f_X5_halts 44 (xs (x3 + 1).toNatClampNeg) σ1) fun r3 σ2 => if r1 = r3 then X2 σ2 else none) := by
  refine go_aload_n C 2 rfl rfl dL_law_701 ?_
  refine go_aload_n C 3 rfl rfl dL_law_702 ?_
  refine go_iload_n C 0 rfl rfl dL_law_703 ?_
  refine go_iconst C 1 dL_law_704 (by decide) ?_
  refine go_iadd C dL_law_705 ?_
  refine lw_sld C hX hbl hbA h1 dL_law_706 ?_
  refine go_callVI C (st := []) [.int (xs (x3 + 1).toNatClampNeg)] (m_X4_halts E _ hok 0 (xs (x3 + 1).toNatClampNeg) σ) (fun _ h => fh_ob_ok h) rfl rfl ⟨q_399, q_400, q_401, q_1, q_402⟩ pd_X4_halts rfl ⟨⟨(Nat.le_of_ble_eq_true rfl), (Nat.le_of_ble_eq_true rfl)⟩, rfl, rfl⟩ (Nat.le_of_ble_eq_true rfl) dL_law_707 (fun r1 σ1 => ?_)
  refine go_aload_n C 1 rfl rfl dL_law_710 ?_
  refine go_aload_n C 3 rfl rfl dL_law_711 ?_
  refine go_iload_n C 0 rfl rfl dL_law_712 ?_
  refine go_iconst C 1 dL_law_713 (by decide) ?_
  refine go_iadd C dL_law_714 ?_
  refine lw_sld C hX hbl hbA h1 dL_law_715 ?_
  refine go_callVI C (st := [.int r1]) [.int (xs (x3 + 1).toNatClampNeg)] (m_X5_halts E _ hok 44 (xs (x3 + 1).toNatClampNeg) σ1) (fun _ h => fh_ob_ok h) rfl rfl ⟨q_1012, q_1013, q_1014, q_6, q_1015⟩ pd_X5_halts rfl ⟨⟨(Nat.le_of_ble_eq_true rfl), (Nat.le_of_ble_eq_true rfl)⟩, rfl, rfl⟩ (Nat.le_of_ble_eq_true rfl) dL_law_716 (fun r3 σ2 => ?_)
  exact go_icmp_eq C dL_law_719 (by decide) (fun _ => K σ2) (fun _ => go_none)
set_option maxRecDepth 100000 in
theorem lw_g18 (C : fh_Cx E (lw_M p l e s m b below meth c cl sl Z) code 4 RL ret room_1) (hok : fh_ok E) (hX : va_X b L xs s s.heap) (hbl : b < s.heap.size) (hbA : ¬ fh_A E b) {x3 : Int32} (h1 : vp_in (x3 + 1) L) (h2 : vp_in (x3 + 2) L) (h3 : vp_in (x3 + 3) L) (h4 : vp_in (x3 + 4) L) (h5 : vp_in (x3 + 5) L) {σ : fh_S} {X2 : fh_S → Option (Unit × fh_S)} (K : ∀ σ2, fh_Go E (lw_M p l e s m b below meth c cl sl Z) 4 fh_vU 1545 (lw_lv E b x3) [] σ2 (X2 σ2)) : fh_Go E (lw_M p l e s m b below meth c cl sl Z) 4 fh_vU 724 (lw_lv E b x3) [] σ (fh_cb (f_X4_settles 0  σ) fun r1 σ1 => fh_cb (f_X5_settles 44  σ1) fun r3 σ2 => if r1 = r3 then X2 σ2 else none) := by
  refine go_aload_n C 2 rfl rfl dL_law_724 ?_
  refine go_callVI C (st := []) [] (m_X4_settles E _ hok 0 σ) (fun _ h => fh_ob_ok h) rfl rfl ⟨q_403, q_404, q_405, q_1, q_406⟩ pd_X4_settles rfl ⟨⟨(Nat.le_of_ble_eq_true rfl), (Nat.le_of_ble_eq_true rfl)⟩, rfl, rfl⟩ (Nat.le_of_ble_eq_true rfl) dL_law_725 (fun r1 σ1 => ?_)
  refine go_aload_n C 1 rfl rfl dL_law_728 ?_
  refine go_callVI C (st := [.int r1]) [] (m_X5_settles E _ hok 44 σ1) (fun _ h => fh_ob_ok h) rfl rfl ⟨q_1016, q_1017, q_1018, q_6, q_1019⟩ pd_X5_settles rfl ⟨⟨(Nat.le_of_ble_eq_true rfl), (Nat.le_of_ble_eq_true rfl)⟩, rfl, rfl⟩ (Nat.le_of_ble_eq_true rfl) dL_law_729 (fun r3 σ2 => ?_)
  exact go_icmp_eq C dL_law_732 (by decide) (fun _ => K σ2) (fun _ => go_none)
set_option maxRecDepth 100000 in
theorem lw_g19 (C : fh_Cx E (lw_M p l e s m b below meth c cl sl Z) code 4 RL ret room_1) (hok : fh_ok E) (hX : va_X b L xs s s.heap) (hbl : b < s.heap.size) (hbA : ¬ fh_A E b) {x3 : Int32} (h1 : vp_in (x3 + 1) L) (h2 : vp_in (x3 + 2) L) (h3 : vp_in (x3 + 3) L) (h4 : vp_in (x3 + 4) L) (h5 : vp_in (x3 + 5) L) {σ : fh_S} {X2 : fh_S → Option (Unit × fh_S)} (K : ∀ σ2, fh_Go E (lw_M p l e s m b below meth c cl sl Z) 4 fh_vU 1545 (lw_lv E b x3) [] σ2 (X2 σ2)) : fh_Go E (lw_M p l e s m b below meth c cl sl Z) 4 fh_vU 737 (lw_lv E b x3) [] σ (fh_cb (f_X4_kindFor 0 (xs (x3 + 1).toNatClampNeg) (xs (x3 + 2).toNatClampNeg) σ) fun r1 σ1 => fh_cb (f_X5_kindFor 44 (xs (x3 + 1).toNatClampNeg) (xs (x3 + 2).toNatClampNeg) σ1) fun r3 σ2 => if r1 = r3 then X2 σ2 else none) := by
  refine go_aload_n C 2 rfl rfl dL_law_737 ?_
  refine go_aload_n C 3 rfl rfl dL_law_738 ?_
  refine go_iload_n C 0 rfl rfl dL_law_739 ?_
  refine go_iconst C 1 dL_law_740 (by decide) ?_
  refine go_iadd C dL_law_741 ?_
  refine lw_sld C hX hbl hbA h1 dL_law_742 ?_
  refine go_aload_n C 3 rfl rfl dL_law_743 ?_
  refine go_iload_n C 0 rfl rfl dL_law_744 ?_
  refine go_iconst C 2 dL_law_745 (by decide) ?_
  refine go_iadd C dL_law_746 ?_
  refine lw_sld C hX hbl hbA h2 dL_law_747 ?_
  refine go_callVI C (st := []) [.int (xs (x3 + 1).toNatClampNeg), .int (xs (x3 + 2).toNatClampNeg)] (m_X4_kindFor E _ hok 0 (xs (x3 + 1).toNatClampNeg) (xs (x3 + 2).toNatClampNeg) σ) (fun _ h => fh_ob_ok h) rfl rfl ⟨q_415, q_416, q_417, q_1, q_418⟩ pd_X4_kindFor rfl ⟨⟨(Nat.le_of_ble_eq_true rfl), (Nat.le_of_ble_eq_true rfl)⟩, rfl, rfl⟩ (Nat.le_of_ble_eq_true rfl) dL_law_748 (fun r1 σ1 => ?_)
  refine go_aload_n C 1 rfl rfl dL_law_751 ?_
  refine go_aload_n C 3 rfl rfl dL_law_752 ?_
  refine go_iload_n C 0 rfl rfl dL_law_753 ?_
  refine go_iconst C 1 dL_law_754 (by decide) ?_
  refine go_iadd C dL_law_755 ?_
  refine lw_sld C hX hbl hbA h1 dL_law_756 ?_
  refine go_aload_n C 3 rfl rfl dL_law_757 ?_
  refine go_iload_n C 0 rfl rfl dL_law_758 ?_
  refine go_iconst C 2 dL_law_759 (by decide) ?_
  refine go_iadd C dL_law_760 ?_
  refine lw_sld C hX hbl hbA h2 dL_law_761 ?_
  refine go_callVI C (st := [.int r1]) [.int (xs (x3 + 1).toNatClampNeg), .int (xs (x3 + 2).toNatClampNeg)] (m_X5_kindFor E _ hok 44 (xs (x3 + 1).toNatClampNeg) (xs (x3 + 2).toNatClampNeg) σ1) (fun _ h => fh_ob_ok h) rfl rfl ⟨q_1024, q_1025, q_1026, q_6, q_1027⟩ pd_X5_kindFor rfl ⟨⟨(Nat.le_of_ble_eq_true rfl), (Nat.le_of_ble_eq_true rfl)⟩, rfl, rfl⟩ (Nat.le_of_ble_eq_true rfl) dL_law_762 (fun r3 σ2 => ?_)
  exact go_icmp_eq C dL_law_765 (by decide) (fun _ => K σ2) (fun _ => go_none)
set_option maxRecDepth 100000 in
theorem lw_g20 (C : fh_Cx E (lw_M p l e s m b below meth c cl sl Z) code 4 RL ret room_1) (hok : fh_ok E) (hX : va_X b L xs s s.heap) (hbl : b < s.heap.size) (hbA : ¬ fh_A E b) {x3 : Int32} (h1 : vp_in (x3 + 1) L) (h2 : vp_in (x3 + 2) L) (h3 : vp_in (x3 + 3) L) (h4 : vp_in (x3 + 4) L) (h5 : vp_in (x3 + 5) L) {σ : fh_S} {X2 : fh_S → Option (Unit × fh_S)} (K : ∀ σ2, fh_Go E (lw_M p l e s m b below meth c cl sl Z) 4 fh_vU 1545 (lw_lv E b x3) [] σ2 (X2 σ2)) : fh_Go E (lw_M p l e s m b below meth c cl sl Z) 4 fh_vU 770 (lw_lv E b x3) [] σ (fh_cb (f_X4_jogFor 0 (xs (x3 + 1).toNatClampNeg) (xs (x3 + 2).toNatClampNeg) (xs (x3 + 3).toNatClampNeg) σ) fun r1 σ1 => fh_cb (f_X5_jogFor 44 (xs (x3 + 1).toNatClampNeg) (xs (x3 + 2).toNatClampNeg) (xs (x3 + 3).toNatClampNeg) σ1) fun r3 σ2 => if r1 = r3 then X2 σ2 else none) := by
  refine go_aload_n C 2 rfl rfl dL_law_770 ?_
  refine go_aload_n C 3 rfl rfl dL_law_771 ?_
  refine go_iload_n C 0 rfl rfl dL_law_772 ?_
  refine go_iconst C 1 dL_law_773 (by decide) ?_
  refine go_iadd C dL_law_774 ?_
  refine lw_sld C hX hbl hbA h1 dL_law_775 ?_
  refine go_aload_n C 3 rfl rfl dL_law_776 ?_
  refine go_iload_n C 0 rfl rfl dL_law_777 ?_
  refine go_iconst C 2 dL_law_778 (by decide) ?_
  refine go_iadd C dL_law_779 ?_
  refine lw_sld C hX hbl hbA h2 dL_law_780 ?_
  refine go_aload_n C 3 rfl rfl dL_law_781 ?_
  refine go_iload_n C 0 rfl rfl dL_law_782 ?_
  refine go_iconst C 3 dL_law_783 (by decide) ?_
  refine go_iadd C dL_law_784 ?_
  refine lw_sld C hX hbl hbA h3 dL_law_785 ?_
  refine go_callVI C (st := []) [.int (xs (x3 + 1).toNatClampNeg), .int (xs (x3 + 2).toNatClampNeg), .int (xs (x3 + 3).toNatClampNeg)] (m_X4_jogFor E _ hok 0 (xs (x3 + 1).toNatClampNeg) (xs (x3 + 2).toNatClampNeg) (xs (x3 + 3).toNatClampNeg) σ) (fun _ h => fh_ob_ok h) rfl rfl ⟨q_424, q_425, q_426, q_1, q_427⟩ pd_X4_jogFor rfl ⟨⟨(Nat.le_of_ble_eq_true rfl), (Nat.le_of_ble_eq_true rfl)⟩, rfl, rfl⟩ (Nat.le_of_ble_eq_true rfl) dL_law_786 (fun r1 σ1 => ?_)
  refine go_aload_n C 1 rfl rfl dL_law_789 ?_
  refine go_aload_n C 3 rfl rfl dL_law_790 ?_
  refine go_iload_n C 0 rfl rfl dL_law_791 ?_
  refine go_iconst C 1 dL_law_792 (by decide) ?_
  refine go_iadd C dL_law_793 ?_
  refine lw_sld C hX hbl hbA h1 dL_law_794 ?_
  refine go_aload_n C 3 rfl rfl dL_law_795 ?_
  refine go_iload_n C 0 rfl rfl dL_law_796 ?_
  refine go_iconst C 2 dL_law_797 (by decide) ?_
  refine go_iadd C dL_law_798 ?_
  refine lw_sld C hX hbl hbA h2 dL_law_799 ?_
  refine go_aload_n C 3 rfl rfl dL_law_800 ?_
  refine go_iload_n C 0 rfl rfl dL_law_801 ?_
  refine go_iconst C 3 dL_law_802 (by decide) ?_
  refine go_iadd C dL_law_803 ?_
  refine lw_sld C hX hbl hbA h3 dL_law_804 ?_
  refine go_callVI C (st := [.int r1]) [.int (xs (x3 + 1).toNatClampNeg), .int (xs (x3 + 2).toNatClampNeg), .int (xs (x3 + 3).toNatClampNeg)] (m_X5_jogFor E _ hok 44 (xs (x3 + 1).toNatClampNeg) (xs (x3 + 2).toNatClampNeg) (xs (x3 + 3).toNatClampNeg) σ1) (fun _ h => fh_ob_ok h) rfl rfl ⟨q_1033, q_1034, q_1035, q_6, q_1036⟩ pd_X5_jogFor rfl ⟨⟨(Nat.le_of_ble_eq_true rfl), (Nat.le_of_ble_eq_true rfl)⟩, rfl, rfl⟩ (Nat.le_of_ble_eq_true rfl) dL_law_805 (fun r3 σ2 => ?_)
  exact go_icmp_eq C dL_law_808 (by decide) (fun _ => K σ2) (fun _ => go_none)
set_option maxRecDepth 100000 in
theorem lw_g21 (C : fh_Cx E (lw_M p l e s m b below meth c cl sl Z) code 4 RL ret room_1) (hok : fh_ok E) (hX : va_X b L xs s s.heap) (hbl : b < s.heap.size) (hbA : ¬ fh_A E b) {x3 : Int32} (h1 : vp_in (x3 + 1) L) (h2 : vp_in (x3 + 2) L) (h3 : vp_in (x3 + 3) L) (h4 : vp_in (x3 + 4) L) (h5 : vp_in (x3 + 5) L) {σ : fh_S} {X2 : fh_S → Option (Unit × fh_S)} (K : ∀ σ2, fh_Go E (lw_M p l e s m b below meth c cl sl Z) 4 fh_vU 1545 (lw_lv E b x3) [] σ2 (X2 σ2)) : fh_Go E (lw_M p l e s m b below meth c cl sl Z) 4 fh_vU 813 (lw_lv E b x3) [] σ (fh_cb (f_X4_most 0  σ) fun r1 σ1 => fh_cb (f_X5_most 44  σ1) fun r3 σ2 => if r1 = r3 then X2 σ2 else none) := by
  refine go_aload_n C 2 rfl rfl dL_law_813 ?_
  refine go_callVI C (st := []) [] (m_X4_most E _ hok 0 σ) (fun _ h => fh_ob_ok h) rfl rfl ⟨q_429, q_430, q_431, q_1, q_432⟩ pd_X4_most rfl ⟨⟨(Nat.le_of_ble_eq_true rfl), (Nat.le_of_ble_eq_true rfl)⟩, rfl, rfl⟩ (Nat.le_of_ble_eq_true rfl) dL_law_814 (fun r1 σ1 => ?_)
  refine go_aload_n C 1 rfl rfl dL_law_817 ?_
  refine go_callVI C (st := [.int r1]) [] (m_X5_most E _ hok 44 σ1) (fun _ h => fh_ob_ok h) rfl rfl ⟨q_1037, q_1038, q_1039, q_6, q_1040⟩ pd_X5_most rfl ⟨⟨(Nat.le_of_ble_eq_true rfl), (Nat.le_of_ble_eq_true rfl)⟩, rfl, rfl⟩ (Nat.le_of_ble_eq_true rfl) dL_law_818 (fun r3 σ2 => ?_)
  exact go_icmp_eq C dL_law_821 (by decide) (fun _ => K σ2) (fun _ => go_none)
set_option maxRecDepth 100000 in
theorem lw_g22 (C : fh_Cx E (lw_M p l e s m b below meth c cl sl Z) code 4 RL ret room_1) (hok : fh_ok E) (hX : va_X b L xs s s.heap) (hbl : b < s.heap.size) (hbA : ¬ fh_A E b) {x3 : Int32} (h1 : vp_in (x3 + 1) L) (h2 : vp_in (x3 + 2) L) (h3 : vp_in (x3 + 3) L) (h4 : vp_in (x3 + 4) L) (h5 : vp_in (x3 + 5) L) {σ : fh_S} {X2 : fh_S → Option (Unit × fh_S)} (K : ∀ σ2, fh_Go E (lw_M p l e s m b below meth c cl sl Z) 4 fh_vU 1545 (lw_lv E b x3) [] σ2 (X2 σ2)) : fh_Go E (lw_M p l e s m b below meth c cl sl Z) 4 fh_vU 826 (lw_lv E b x3) [] σ (fh_cb (f_X4_jogs 0 (xs (x3 + 1).toNatClampNeg) σ) fun r1 σ1 => fh_cb (f_X5_jogs 44 (xs (x3 + 1).toNatClampNeg) σ1) fun r3 σ2 => if r1 = r3 then X2 σ2 else none) := by
  refine go_aload_n C 2 rfl rfl dL_law_826 ?_
  refine go_aload_n C 3 rfl rfl dL_law_827 ?_
  refine go_iload_n C 0 rfl rfl dL_law_828 ?_
  refine go_iconst C 1 dL_law_829 (by decide) ?_
  refine go_iadd C dL_law_830 ?_
  refine lw_sld C hX hbl hbA h1 dL_law_831 ?_
  refine go_callVI C (st := []) [.int (xs (x3 + 1).toNatClampNeg)] (m_X4_jogs E _ hok 0 (xs (x3 + 1).toNatClampNeg) σ) (fun _ h => fh_ob_ok h) rfl rfl ⟨q_434, q_435, q_436, q_1, q_437⟩ pd_X4_jogs rfl ⟨⟨(Nat.le_of_ble_eq_true rfl), (Nat.le_of_ble_eq_true rfl)⟩, rfl, rfl⟩ (Nat.le_of_ble_eq_true rfl) dL_law_832 (fun r1 σ1 => ?_)
  refine go_aload_n C 1 rfl rfl dL_law_835 ?_
  refine go_aload_n C 3 rfl rfl dL_law_836 ?_
  refine go_iload_n C 0 rfl rfl dL_law_837 ?_
  refine go_iconst C 1 dL_law_838 (by decide) ?_
  refine go_iadd C dL_law_839 ?_
  refine lw_sld C hX hbl hbA h1 dL_law_840 ?_
  refine go_callVI C (st := [.int r1]) [.int (xs (x3 + 1).toNatClampNeg)] (m_X5_jogs E _ hok 44 (xs (x3 + 1).toNatClampNeg) σ1) (fun _ h => fh_ob_ok h) rfl rfl ⟨q_1045, q_1046, q_1047, q_6, q_1048⟩ pd_X5_jogs rfl ⟨⟨(Nat.le_of_ble_eq_true rfl), (Nat.le_of_ble_eq_true rfl)⟩, rfl, rfl⟩ (Nat.le_of_ble_eq_true rfl) dL_law_841 (fun r3 σ2 => ?_)
  exact go_icmp_eq C dL_law_844 (by decide) (fun _ => K σ2) (fun _ => go_none)
set_option maxRecDepth 100000 in
theorem lw_g23 (C : fh_Cx E (lw_M p l e s m b below meth c cl sl Z) code 4 RL ret room_1) (hok : fh_ok E) (hX : va_X b L xs s s.heap) (hbl : b < s.heap.size) (hbA : ¬ fh_A E b) {x3 : Int32} (h1 : vp_in (x3 + 1) L) (h2 : vp_in (x3 + 2) L) (h3 : vp_in (x3 + 3) L) (h4 : vp_in (x3 + 4) L) (h5 : vp_in (x3 + 5) L) {σ : fh_S} {X2 : fh_S → Option (Unit × fh_S)} (K : ∀ σ2, fh_Go E (lw_M p l e s m b below meth c cl sl Z) 4 fh_vU 1545 (lw_lv E b x3) [] σ2 (X2 σ2)) : fh_Go E (lw_M p l e s m b below meth c cl sl Z) 4 fh_vU 849 (lw_lv E b x3) [] σ (fh_cb (f_X4_right 0 (xs (x3 + 1).toNatClampNeg) σ) fun r1 σ1 => fh_cb (f_X5_right 44 (xs (x3 + 1).toNatClampNeg) σ1) fun r3 σ2 => if r1 = r3 then X2 σ2 else none) := by
  refine go_aload_n C 2 rfl rfl dL_law_849 ?_
  refine go_aload_n C 3 rfl rfl dL_law_850 ?_
  refine go_iload_n C 0 rfl rfl dL_law_851 ?_
  refine go_iconst C 1 dL_law_852 (by decide) ?_
  refine go_iadd C dL_law_853 ?_
  refine lw_sld C hX hbl hbA h1 dL_law_854 ?_
  refine go_callVI C (st := []) [.int (xs (x3 + 1).toNatClampNeg)] (m_X4_right E _ hok 0 (xs (x3 + 1).toNatClampNeg) σ) (fun _ h => fh_ob_ok h) rfl rfl ⟨q_438, q_439, q_440, q_1, q_441⟩ pd_X4_right rfl ⟨⟨(Nat.le_of_ble_eq_true rfl), (Nat.le_of_ble_eq_true rfl)⟩, rfl, rfl⟩ (Nat.le_of_ble_eq_true rfl) dL_law_855 (fun r1 σ1 => ?_)
  refine go_aload_n C 1 rfl rfl dL_law_858 ?_
  refine go_aload_n C 3 rfl rfl dL_law_859 ?_
  refine go_iload_n C 0 rfl rfl dL_law_860 ?_
  refine go_iconst C 1 dL_law_861 (by decide) ?_
  refine go_iadd C dL_law_862 ?_
  refine lw_sld C hX hbl hbA h1 dL_law_863 ?_
  refine go_callVI C (st := [.int r1]) [.int (xs (x3 + 1).toNatClampNeg)] (m_X5_right E _ hok 44 (xs (x3 + 1).toNatClampNeg) σ1) (fun _ h => fh_ob_ok h) rfl rfl ⟨q_1053, q_1054, q_1055, q_6, q_1056⟩ pd_X5_right rfl ⟨⟨(Nat.le_of_ble_eq_true rfl), (Nat.le_of_ble_eq_true rfl)⟩, rfl, rfl⟩ (Nat.le_of_ble_eq_true rfl) dL_law_864 (fun r3 σ2 => ?_)
  exact go_icmp_eq C dL_law_867 (by decide) (fun _ => K σ2) (fun _ => go_none)
end LWC0
