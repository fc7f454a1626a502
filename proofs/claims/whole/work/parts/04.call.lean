section FHCALL
theorem fh_gw {y : MethodName} {b : ByteArray} {n : Nat} {ret : Option FieldType} (h : Cond.code y b n ret ∈ fh_T) : GoodIn fh_T (fh_w y b n ret) := by
  intro w hw
  rcases List.mem_cons.mp hw with e | e
  · subst e; exact ⟨h, fh_good h⟩
  · exact ⟨e, fh_good e⟩
theorem fh_blind {E : fh_E} {σ : fh_S} {As : List Value} : FrameBlind (va_Pc As (fh_Wd E σ)) := fun a U g mk q => by
  obtain ⟨q0, q1, q2, q3⟩ := q
  exact ⟨q0, q1, va_K.moved (u := U) (U := U.calling g mk a) (Vm.Alike.refl U.vm) q2, q3.1.moved (U := U.calling g mk a) (Vm.Alike.refl U.vm), q3.2.1.moved (U := U.calling g mk a) (Vm.Alike.refl U.vm), q3.2.2.1.moved (U := U.calling g mk a) (Vm.Alike.refl U.vm), q3.2.2.2.1.moved (U := U.calling g mk a) (Vm.Alike.refl U.vm), fun i hi => ⟨(q3.2.2.2.2.1 i hi).1.moved (U := U.calling g mk a) (Vm.Alike.refl U.vm), (q3.2.2.2.2.1 i hi).2.1.moved (U := U.calling g mk a) (Vm.Alike.refl U.vm), (q3.2.2.2.2.1 i hi).2.2.1.moved (U := U.calling g mk a) (Vm.Alike.refl U.vm), (q3.2.2.2.2.1 i hi).2.2.2.moved (U := U.calling g mk a) (Vm.Alike.refl U.vm)⟩, fun i q hq => (q3.2.2.2.2.2.1 i q hq).same (U := U.calling g mk a) rfl, fun w hw => va_Nw.same (by
    simp only [fh_nest, List.mem_cons, List.not_mem_nil, or_false] at hw
    rcases hw with rfl | rfl | rfl | rfl | rfl | rfl | rfl | rfl | rfl <;> rfl) (u := U) (U := U.calling g mk a) rfl (q3.2.2.2.2.2.2 w hw)⟩
theorem fh_after {E : fh_E} {p : Program} {l : Launch} {e : Env} {R : Room} {s : State} {m : MethodId} {args : Array Value} {below : List Frame} {meth : Method} {c : Code} {H : Heap} {locs : List Loc} {cl sl : Nat} {Q : State → Prop} {pc : Nat} {ls : Array Slot} {st0 rest : List Value} {a : Array Value} {v : Option Value} {σ1 : fh_S}
    (hr : va_Run p l e R s m args below meth c H locs cl sl 0 0 (F0 m pc ls st0) rest (fh_Q E v σ1 a) (fh_A E)) (hS : va_S (fh_A E) s.heap H locs)
    (kk : ∀ (H1 : Heap) (locs1 : List Loc), va_P (fh_D E) fh_cl (fh_ws E σ1) H1 → va_S (fh_A E) s.heap H1 locs1 → W p l e R s m args below meth c H1 locs1 cl sl Q (F0 m (pc + 3) ls (v.toList ++ rest))) : W p l e R s m args below meth c H locs cl sl Q (F0 m pc ls st0) := by
  intro T hT X
  obtain ⟨v', st₀, t, T', L, h0, X', hL, e1, e2, ⟨hv, hP1, hz, hk⟩, st⟩ := hr T hT X
  cases hv
  rw [h0] at hz hk
  obtain ⟨t2, a1, b1⟩ := kk T'.heap (locs ++ L) (by rw [e1]; exact hP1)
    ⟨Nat.le_trans hS.1 (by rw [e1]; exact hz), fun q h1 h2 => by rw [e1, hk q (Nat.lt_of_lt_of_le h1 hS.1) h2]; exact hS.2.1 q h1 h2, fun q hq => by
      rcases List.mem_append.mp hq with h | h
      · exact hS.2.2 q h
      · exact hL q h⟩ T' rfl X'
  exact ⟨t2, st t2 a1, b1⟩
/-- a method's contract -/
def fh_Met {β : Type} (E : fh_E) (l : Launch) (y : MethodName) (b : ByteArray) (n : Nat) (ret : Option FieldType) (rm : Room) (vw : β → Option Value) (As : List Value) (σ : fh_S) (F : Option (β × fh_S)) : Prop :=
  ∀ (r : β) (σ' : fh_S), F = some (r, σ') → Met l y (fh_w y b n ret) rm (va_Pc As (fh_Wd E σ)) (fh_Q E (vw r) σ') 0 0 (fh_A E)
variable {α β : Type} {E : fh_E} {M : fh_M} {cc : ByteArray} {nL : Nat} {own : String} {rt : Option FieldType} {rm : Room} {vw : α → Option Value} {pc : Nat} {lv : List (Nat × Value)} {st st0 : List Value} {σ : fh_S} {X : β → fh_S → Option (α × fh_S)}
variable {y : MethodName} {bytes : ByteArray} {maxL n idx : Nat} {ret : Option FieldType} {rm' : Room} {vw' : β → Option Value} {F : Option (β × fh_S)}
theorem go_callS (C : fh_Cx E M cc nL own rt rm) (As : List Value) (hM : fh_Met E M.2.1 y bytes maxL ret rm' vw' As σ F) (hst : st0 = As.reverse ++ st)
    (hw : Cond.methodLink own idx y ∈ fh_T ∧ Cond.static y ∈ fh_T ∧ Cond.initialized y.cls ∈ fh_T ∧ Cond.code y bytes maxL ret ∈ fh_T)
    (hd' : y.cls ≠ "java/lang/invoke/MethodHandle" ∧ y.cls ≠ "java/lang/invoke/VarHandle" ∧ (parseMethodDescriptor y.desc).map (fun d => d.parameters.length) = some n) (hn : As.length = n)
    (hR : (rm'.frames + 1 ≤ rm.frames ∧ 8 + (maxL + 11) + rm'.locals ≤ rm.locals) ∧ rm'.cells = 0 ∧ rm'.slots = 0) (hcat : (st.map fun v => v.category).sum ≤ 8) (hd : decode cc pc = .ok (.invokestatic idx, 3))
    (K : ∀ (r : β) (σ1 : fh_S), fh_Go E M nL vw (pc + 3) lv ((vw' r).toList ++ st) σ1 (X r σ1)) : fh_Go E M nL vw pc lv st0 σ (fh_cb F X) := by
  obtain ⟨p, l, e, R, s, m, args, below, meth, c, cl, sl, Qf⟩ := M
  obtain ⟨hx, hb, hml, hown, hts, hlk, hr, hRR, hK, hE, hok, hcl⟩ := C
  intro r σ' hX H locs ls hP hS hl
  cases hF : F with
  | none => rw [hF] at hX; cases hX
  | some q =>
    obtain ⟨r1, σ1⟩ := q
    rw [hF] at hX
    subst hRR
    subst hst
    have hG : GoodIn fh_T (va_wsS own idx y (fh_w y bytes maxL ret)) := by
      intro w hw'
      unfold va_wsS at hw'
      rcases List.mem_append.mp hw' with h | h
      · simp only [List.mem_cons, List.not_mem_nil, or_false] at h
        rcases h with rfl | rfl | rfl
        · exact ⟨hw.1, fh_good hw.1⟩
        · exact ⟨hw.2.1, fh_good hw.2.1⟩
        · exact ⟨hw.2.2.1, fh_good hw.2.2.1⟩
      · exact fh_gw hw.2.2.2 w h
    refine fh_after (va_runS (As := As) (rest := st) (Ts := fh_T) ⟨hx, hb, hml, hown, hts⟩ (hM r1 σ1 hF) (va_cwS n hts hG rfl hR.2.1 hR.2.2 hd' hR.1) ⟨fh_blind, fun U hU hW => ⟨rfl, by rw [hU]; exact hP, va_K.moved hW.alike hK, fh_X_go hE hS hU hW⟩⟩ rfl hn hl.1 rfl (lv_room hcat) hd hcl) hS (fun H1 locs1 hP1 hS1 => ?_)
    exact K r1 σ1 r σ' hX H1 locs1 ls hP1 hS1 hl
theorem go_callN (C : fh_Cx E M cc nL own rt rm) (As : List Value) (host : String) (hM : fh_Met E M.2.1 y bytes maxL ret rm' vw' As σ F) (hst : st0 = As.reverse ++ st)
    (hw : Cond.methodLinkNest own idx y host ∈ fh_nest ∧ Cond.static y ∈ fh_T ∧ Cond.initialized y.cls ∈ fh_T ∧ Cond.code y bytes maxL ret ∈ fh_T)
    (hd' : y.cls ≠ "java/lang/invoke/MethodHandle" ∧ y.cls ≠ "java/lang/invoke/VarHandle" ∧ (parseMethodDescriptor y.desc).map (fun d => d.parameters.length) = some n) (hn : As.length = n)
    (hR : (rm'.frames + 1 ≤ rm.frames ∧ 8 + (maxL + 11) + rm'.locals ≤ rm.locals) ∧ rm'.cells = 0 ∧ rm'.slots = 0) (hcat : (st.map fun v => v.category).sum ≤ 8) (hd : decode cc pc = .ok (.invokestatic idx, 3))
    (K : ∀ (r : β) (σ1 : fh_S), fh_Go E M nL vw (pc + 3) lv ((vw' r).toList ++ st) σ1 (X r σ1)) : fh_Go E M nL vw pc lv st0 σ (fh_cb F X) := by
  obtain ⟨p, l, e, R, s, m, args, below, meth, c, cl, sl, Qf⟩ := M
  obtain ⟨hx, hb, hml, hown, hts, hlk, hr, hRR, hK, hE, hok, hcl⟩ := C
  intro r σ' hX H locs ls hP hS hl
  cases hF : F with
  | none => rw [hF] at hX; cases hX
  | some q =>
    obtain ⟨r1, σ1⟩ := q
    rw [hF] at hX
    subst hRR
    subst hst
    refine fh_after (va_runSN (As := As) (rest := st) (Ts := fh_T) (host := host) ⟨hx, hb, hml, hown, hts⟩ (hM r1 σ1 hF) ⟨va_cnB n hts (fh_gw hw.2.2.2) rfl hR.2.1 hR.2.2 (hE.2.2.2.2.2.2 _ hw.1) (hts _ hw.2.2.1) hd' hR.1, hts _ hw.2.1, trivial⟩ ⟨fh_blind, fun U hU hW => ⟨rfl, by rw [hU]; exact hP, va_K.moved hW.alike hK, fh_X_go hE hS hU hW⟩⟩ rfl hn hl.1 rfl (lv_room hcat) hd hcl) hS (fun H1 locs1 hP1 hS1 => ?_)
    exact K r1 σ1 r σ' hX H1 locs1 ls hP1 hS1 hl
theorem fh_recv {E : fh_E} {s : State} {H : Heap} {σ : fh_S} {ci k N : Nat} {cn : String} {T : u_T} (hK : va_K (fh_D E) fh_cl (fh_ty E) s) (hP : va_P (fh_D E) fh_cl (fh_ws E σ) H) (hc : fh_cl[ci]? = some (cn, T, N)) (h : fh_isC ci k = true) : ∃ cell : Cell, H[fh_ad E k]? = some cell ∧ cell.vm.isStatics = false ∧ s.vm.findClass cn = some cell.cls := by
  unfold fh_isC at h
  cases ho : fh_obj ci k with
  | none => rw [ho] at h; cases h
  | some fs => exact va_recv hK hP hc (fh_look (E := E) (σ := σ) (fh_obj_spec ho))
theorem go_callV (C : fh_Cx E M cc nL own rt rm) (As : List Value) {k ci N : Nat} {T : u_T} (hM : fh_Met E M.2.1 y bytes maxL ret rm' vw' (.ref (fh_ad E k) :: As) σ F) (hq : ∀ q, F = some q → fh_isC ci k = true) (hst : st0 = As.reverse ++ .ref (fh_ad E k) :: st) (hc : fh_cl[ci]? = some (y.cls, T, N))
    (hw : Cond.methodLink own idx y ∈ fh_T ∧ Cond.instanceMethod y ∈ fh_T ∧ Cond.selects y.cls y y ∈ fh_T ∧ Cond.initialized y.cls ∈ fh_T ∧ Cond.code y bytes maxL ret ∈ fh_T)
    (hd' : y.cls ≠ "java/lang/invoke/MethodHandle" ∧ y.cls ≠ "java/lang/invoke/VarHandle" ∧ (parseMethodDescriptor y.desc).map (fun d => d.parameters.length) = some n) (hn : As.length = n)
    (hR : (rm'.frames + 1 ≤ rm.frames ∧ 8 + (maxL + 11) + rm'.locals ≤ rm.locals) ∧ rm'.cells = 0 ∧ rm'.slots = 0) (hcat : (st.map fun v => v.category).sum ≤ 8) (hd : decode cc pc = .ok (.invokevirtual idx, 3))
    (K : ∀ (r : β) (σ1 : fh_S), fh_Go E M nL vw (pc + 3) lv ((vw' r).toList ++ st) σ1 (X r σ1)) : fh_Go E M nL vw pc lv st0 σ (fh_cb F X) := by
  obtain ⟨p, l, e, R, s, m, args, below, meth, c, cl, sl, Qf⟩ := M
  obtain ⟨hx, hb, hml, hown, hts, hlk, hr, hRR, hK, hE, hok, hcl⟩ := C
  intro r σ' hX H locs ls hP hS hl
  cases hF : F with
  | none => rw [hF] at hX; cases hX
  | some q =>
    have hqq := hq q hF
    obtain ⟨r1, σ1⟩ := q
    rw [hF] at hX
    subst hRR
    subst hst
    have hG : GoodIn fh_T (wsV own idx y.cls y (fh_w y bytes maxL ret)) := by
      intro w hw'
      unfold wsV at hw'
      rcases List.mem_append.mp hw' with h | h
      · simp only [List.mem_cons, List.not_mem_nil, or_false] at h
        rcases h with rfl | rfl | rfl | rfl
        · exact ⟨hw.1, fh_good hw.1⟩
        · exact ⟨hw.2.1, fh_good hw.2.1⟩
        · exact ⟨hw.2.2.1, fh_good hw.2.2.1⟩
        · exact ⟨hw.2.2.2.1, fh_good hw.2.2.2.1⟩
      · exact fh_gw hw.2.2.2.2 w h
    refine fh_after (va_runV (As := As) (rest := st) (Ts := fh_T) (C := y.cls) ⟨hx, hb, hml, hown, hts⟩ (hM r1 σ1 hF) (cwV n hts hG rfl hR.2.1 hR.2.2 ⟨rfl, hd'⟩ hR.1) ⟨fh_blind, fh_recv hK hP hc hqq, fun U hU hW => ⟨rfl, by rw [hU]; exact hP, va_K.moved hW.alike hK, fh_X_go hE hS hU hW⟩⟩ rfl hn hl.1 rfl (lv_room hcat) hd hcl) hS (fun H1 locs1 hP1 hS1 => ?_)
    exact K r1 σ1 r σ' hX H1 locs1 ls hP1 hS1 hl
/-- the JVM's own copy of a part of an int[] -/
theorem go_cp {X : fh_S → Option (α × fh_S)} (C : fh_Cx E M cc nL own rt rm) {k1 k2 : Nat} {sp dp n : Int32} (hw : Cond.methodLink own idx arraycopyName ∈ fh_T ∧ Cond.native arraycopyName ∈ fh_T ∧ Cond.static arraycopyName ∈ fh_T ∧ Cond.initialized "java/lang/System" ∈ fh_T) (hR : 1 ≤ rm.frames ∧ (st.map fun v => v.category).sum + (nativeFrameWords "java/lang/System" "arraycopy" 5 + 11) ≤ rm.locals) (hd : decode cc pc = .ok (.invokestatic idx, 3))
    (K : ∀ σ1, fh_Go E M nL vw (pc + 3) lv st σ1 (X σ1)) : fh_Go E M nL vw pc lv (.int n :: .int dp :: .ref (fh_ad E k2) :: .int sp :: .ref (fh_ad E k1) :: st) σ ((fh_cp σ k1 sp k2 dp n).bind X) := by
  obtain ⟨p, l, e, R, s, m, args, below, meth, c, cl, sl, Qf⟩ := M
  obtain ⟨hx, hb, hml, hown, hts, hlk, hr, hRR, hK, hE, hok, hcl⟩ := C
  intro r σ' hX H locs ls hP hS hl
  subst hRR
  unfold fh_cp fh_arr at hX
  split at hX
  · rename_i n1 h1
    simp only [Option.bind_some] at hX
    split at hX
    · rename_i n2 h2
      simp only [Option.bind_some] at hX
      split at hX
      · cases hX
      · rename_i hin
        simp only [not_or, Nat.not_lt] at hin
        refine va_copyi (D := fh_D E) (tys := fh_ty E) (cl := fh_cl) (ws := fh_ws E σ) (ty := .int) hx hb (by rw [hml, hl.1]) hown (hts _ hw.1) (hts _ hw.2.1) (hts _ hw.2.2.1) (hts _ hw.2.2.2) hK hP (fh_hD hok σ) hS k1 k2 0 0 (fh_look h1) (fh_look h2) rfl rfl rfl hin.1 hin.2.1 hin.2.2.1 hin.2.2.2.1 hin.2.2.2.2 (fun _ _ => rfl) hR.1 hR.2 hd (fun H1 locs1 hP1 _ hS1 => ?_)
        have e1 := fh_set (E := E) (σ := σ) (f := va_cpy (σ k1) (σ k2) sp.toNatClampNeg dp.toNatClampNeg n.toNatClampNeg) h2
        exact K _ r σ' hX H1 locs1 ls (e1 ▸ hP1) hS1 hl
    · cases hX
  · cases hX
/-- the contract out of the body -/
theorem fh_met {γ : Type} {E : fh_E} {l : Launch} {y : MethodName} {b : ByteArray} {n : Nat} {ret : Option FieldType} {rm : Room} {vw : γ → Option Value} {As : List Value} {σ : fh_S} {F : Option (γ × fh_S)} (hok : fh_ok E) (hy : plainFor y = true) (hlen : (lg_sl As).length ≤ n)
    (G : ∀ M : fh_M, M.2.1 = l → fh_Cx E M b n y.cls ret rm → fh_Rt E M → fh_Go E M n vw 0 (lv_args 0 As) [] σ F) : fh_Met E l y b n ret rm vw As σ F := by
  intro r σ' hF
  refine va_MetF (cc := b) (maxL := n) (ret := ret) hy rfl ?_
  intro p e s m args below meth c s₁ B hml hv
  obtain ⟨rfl, hP, hK, hE⟩ := hv
  have hts := atoms_spec (ws := fh_w y b n ret) B.pre
  have hl := lv_entry As (n := n) hlen
  rw [lg_entry_eq]
  exact G (p, l, e, (headSpec (fh_w y b n ret) rm).room, s, m, As.toArray, below, meth, c, 0, 0, fun v σ' => MQ below (fh_Q E v σ') As.toArray s 0 0 (fh_A E)) rfl ⟨B.exec, B.bytes, hml, findClass_of_methodNamed B.named, fun w hw => hts w (List.mem_cons_of_mem _ hw), B.notSynchronized, B.returns, rfl, hK, hE, hok, Nat.zero_le _, Nat.zero_le _⟩ ⟨rfl, rfl, rfl⟩ r σ' hF s.heap [] _ hP va_S.rf hl
end FHCALL
