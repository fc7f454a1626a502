section FHMORE
theorem fh_cok {E : fh_E} {M : fh_M} {cc : ByteArray} {nL : Nat} {own : String} {rt : Option FieldType} {rm : Room} (C : fh_Cx E M cc nL own rt rm) : fh_ok E := by
  obtain ⟨p, l, e, R, s, m, args, below, meth, c, cl, sl, Qf⟩ := M
  exact C.2.2.2.2.2.2.2.2.2.2.1
def fh_fu : Nat := 5000
/-- a loop, so many times at most -/
def fh_fx {ρ : Type} (bot : ρ) (b : ρ → ρ) : Nat → ρ
  | 0 => bot
  | n + 1 => b (fh_fx bot b n)
theorem go_fx {ρ : Type} {bot : ρ} {b : ρ → ρ} (P : ρ → Prop) (h0 : P bot) (hs : ∀ r, P r → P (b r)) : ∀ n, P (fh_fx bot b n)
  | 0 => h0
  | n + 1 => hs _ (go_fx P h0 hs n)
/-- a place where ways meet -/
def fh_jn {γ δ : Type} (k : γ) (f : γ → δ) : δ := f k
def fh_on {β : Type} (o : Option Nat) (a : β) (f : Nat → β) : β := match o with
  | none => a
  | some k => f k
def fh_sg {β : Type} (i : Nat) (x : Option β) : Option β := if i < 26 then x else none
def fh_sb (i : Nat) (j : Int32) : Option Int32 := if i < 26 then (if j < 0 ∨ fh_sl i ≤ j.toNatClampNeg then none else some ((fh_tx i).getD j.toNatClampNeg 0)) else none
def fh_rc (v : Int32) (σ : fh_S) : Option (Int32 × fh_S) := if v < 0 ∨ 65535 < v then none else some (v, σ)
def fh_ry (v : Int32) (σ : fh_S) : Option (Int32 × fh_S) := if v = 0 then some (v, σ) else none
variable {α β : Type} {E : fh_E} {M : fh_M} {cc : ByteArray} {nL : Nat} {own : String} {rt : Option FieldType} {rm : Room} {vw : α → Option Value} {pc : Nat} {lv : List (Nat × Value)} {st st0 : List Value} {σ : fh_S} {X : Option (α × fh_S)}
theorem go_jn {γ : Type} {k : γ} {f : γ → Option (α × fh_S)} (P : γ → Prop) (hk : P k) (hf : ∀ j, P j → fh_Go E M nL vw pc lv st σ (f j)) : fh_Go E M nL vw pc lv st σ (fh_jn k f) := hf k hk
theorem go_ob {ci k : Nat} (K : fh_Go E M nL vw pc lv st σ X) : fh_Go E M nL vw pc lv st σ (fh_ob ci k X) := by
  unfold fh_ob
  split
  · exact K
  · exact go_none
theorem go_nz {y : Int32} (K : ¬ y = 0 → fh_Go E M nL vw pc lv st σ X) : fh_Go E M nL vw pc lv st σ (if y = 0 then none else X) := by
  split
  · exact go_none
  · rename_i h; exact K h
theorem go_sg {i : Nat} (K : i < 26 → fh_Go E M nL vw pc lv st σ X) : fh_Go E M nL vw pc lv st σ (fh_sg i X) := by
  unfold fh_sg
  split
  · rename_i h; exact K h
  · exact go_none
theorem fh_sg_ok {i : Nat} {x : Option β} {y : β} (h : fh_sg i x = some y) : i < 26 := by
  unfold fh_sg at h
  split at h
  · assumption
  · cases h
theorem go_on {o : Option Nat} {X2 : Nat → Option (α × fh_S)} (K1 : fh_Go E M nL vw pc lv (.null :: st) σ X) (K2 : ∀ k, fh_Go E M nL vw pc lv (.ref (fh_ad E k) :: st) σ (X2 k)) : fh_Go E M nL vw pc lv (va_rf (o.map (fh_ad E)) :: st) σ (fh_on o X X2) := by
  cases o with
  | none => exact K1
  | some k => exact K2 k
theorem go_sval (C : fh_Cx E M cc nL own rt rm) {i idx : Nat} (hi : i < 26) (hlink : Cond.fieldLink own idx "java/lang/String" "value" "[B" ∈ fh_T) (hd : decode cc pc = .ok (.getfield idx, 3)) (K : fh_Go E M nL vw (pc + 3) lv (.ref (fh_aV E i) :: st) σ X) : fh_Go E M nL vw pc lv (.ref (fh_aK E i) :: st) σ X := by
  obtain ⟨p, l, e, R, s, m, args, below, meth, c, cl, sl, Qf⟩ := M
  obtain ⟨hx, hb, hml, hown, hts, hlk, hr, hR, hK, hE, hok, hcl⟩ := C
  intro r σ' hX H locs ls hP hS hl
  exact vk_getf hx hb (hE.2.2.2.2.1 i hi).2.2.1 hS hown (hts _ hlink) (fun _ h => h) hd (K r σ' hX H locs ls hP hS hl)
theorem go_scod (C : fh_Cx E M cc nL own rt rm) {i idx : Nat} (hi : i < 26) (hlink : Cond.fieldLink own idx "java/lang/String" "coder" "B" ∈ fh_T) (hd : decode cc pc = .ok (.getfield idx, 3)) (K : fh_Go E M nL vw (pc + 3) lv (.int 0 :: st) σ X) : fh_Go E M nL vw pc lv (.ref (fh_aK E i) :: st) σ X := by
  obtain ⟨p, l, e, R, s, m, args, below, meth, c, cl, sl, Qf⟩ := M
  obtain ⟨hx, hb, hml, hown, hts, hlk, hr, hR, hK, hE, hok, hcl⟩ := C
  intro r σ' hX H locs ls hP hS hl
  exact vk_getf hx hb (hE.2.2.2.2.1 i hi).2.1 hS hown (hts _ hlink) (fun _ h => h) hd (K r σ' hX H locs ls hP hS hl)
theorem go_slen (C : fh_Cx E M cc nL own rt rm) {i : Nat} (hi : i < 26) (hd : decode cc pc = .ok (.arraylength, 1)) (K : fh_Go E M nL vw (pc + 1) lv (.int (Int32.ofNat (fh_sl i)) :: st) σ X) : fh_Go E M nL vw pc lv (.ref (fh_aV E i) :: st) σ X := by
  obtain ⟨p, l, e, R, s, m, args, below, meth, c, cl, sl, Qf⟩ := M
  obtain ⟨hx, hb, hml, hown, hts, hlk, hr, hR, hK, hE, hok, hcl⟩ := C
  intro r σ' hX H locs ls hP hS hl
  exact va_tlen hx hb (hE.2.2.2.2.1 i hi).2.2.2 hS rfl hd (K r σ' hX H locs ls hP hS hl)
theorem go_sbl {X : Int32 → Option (α × fh_S)} (C : fh_Cx E M cc nL own rt rm) {i : Nat} {j : Int32} (hd : decode cc pc = .ok (.baload, 1)) (K : ∀ v, fh_Go E M nL vw (pc + 1) lv (.int v :: st) σ (X v)) : fh_Go E M nL vw pc lv (.int j :: .ref (fh_aV E i) :: st) σ ((fh_sb i j).bind X) := by
  obtain ⟨p, l, e, R, s, m, args, below, meth, c, cl, sl, Qf⟩ := M
  obtain ⟨hx, hb, hml, hown, hts, hlk, hr, hR, hK, hE, hok, hcl⟩ := C
  intro r σ' hX H locs ls hP hS hl
  unfold fh_sb at hX
  split at hX
  · rename_i hi
    split at hX
    · cases hX
    · rename_i hin
      exact va_tb hx hb (hE.2.2.2.2.1 i hi).2.2.2 hS hin rfl hd (K _ r σ' hX H locs ls hP hS hl)
  · cases hX
theorem go_cs (C : fh_Cx E M cc nL own rt rm) {idx : Nat} (hlink : Cond.fieldLink own idx "java/lang/String" "COMPACT_STRINGS" "Z" ∈ fh_T) (hd : decode cc pc = .ok (.getstatic idx, 3)) (K : fh_Go E M nL vw (pc + 3) lv (.int 1 :: st) σ X) : fh_Go E M nL vw pc lv st σ X := by
  obtain ⟨p, l, e, R, s, m, args, below, meth, c, cl, sl, Qf⟩ := M
  obtain ⟨hx, hb, hml, hown, hts, hlk, hr, hR, hK, hE, hok, hcl⟩ := C
  intro r σ' hX H locs ls hP hS hl
  exact va_gets hx hb hE.2.2.1 hS hown (hts _ hlink) (fun _ h => h) hd (K r σ' hX H locs ls hP hS hl)
theorem go_sio (C : fh_Cx E M cc nL own rt rm) {idx : Nat} (hlink : Cond.fieldLink own idx "jdk/internal/util/Preconditions" "SIOOBE_FORMATTER" "Ljava/util/function/BiFunction;" ∈ fh_T) (hd : decode cc pc = .ok (.getstatic idx, 3)) (K : ∀ v : Value, v.category = 1 → fh_Go E M nL vw (pc + 3) lv (v :: st) σ X) : fh_Go E M nL vw pc lv st σ X := by
  obtain ⟨p, l, e, R, s, m, args, below, meth, c, cl, sl, Qf⟩ := M
  obtain ⟨hx, hb, hml, hown, hts, hlk, hr, hR, hK, hE, hok, hcl⟩ := C
  intro r σ' hX H locs ls hP hS hl
  rcases hE.2.2.2.1 with h | ⟨t, h⟩
  · exact va_gets hx hb h hS hown (hts _ hlink) (fun _ h => h) hd (K _ rfl r σ' hX H locs ls hP hS hl)
  · exact va_gets hx hb h hS hown (hts _ hlink) (fun _ h => h) hd (K _ rfl r σ' hX H locs ls hP hS hl)
theorem go_cret (C : fh_Cx E M cc nL own (some .char) rm) (Hr : fh_Rt E M) {v : Int32} (hd : decode cc pc = .ok (.ireturn, 1)) : fh_Go E M nL fh_vI pc lv [.int v] σ (fh_rc v σ) := by
  obtain ⟨p, l, e, R, s, m, args, below, meth, c, cl, sl, Qf⟩ := M
  obtain ⟨hx, hb, hml, hown, hts, hlk, hr, hR, hK, hE, hok, hcl⟩ := C
  obtain ⟨rfl, rfl, rfl⟩ := Hr
  intro r σ' hX H locs ls hP hS hl
  unfold fh_rc at hX
  split at hX
  · cases hX
  · rename_i hv
    have hv := not_or.mp hv
    cases hX
    obtain ⟨q, hq, e⟩ := nI_of2 (M := 65535) (n := 65535) (by decide) hv.1 (Int32.not_lt.mp hv.2)
    exact W.zret hx hb hr (by rw [e]; exact (pk_charN (by omega)).1) (fun t ht hW => ⟨rfl, by rw [ht]; exact hP, hS.F ht⟩) hS.2.2 hd hlk
theorem go_yret (C : fh_Cx E M cc nL own (some .byte) rm) (Hr : fh_Rt E M) {v : Int32} (hd : decode cc pc = .ok (.ireturn, 1)) : fh_Go E M nL fh_vI pc lv [.int v] σ (fh_ry v σ) := by
  obtain ⟨p, l, e, R, s, m, args, below, meth, c, cl, sl, Qf⟩ := M
  obtain ⟨hx, hb, hml, hown, hts, hlk, hr, hR, hK, hE, hok, hcl⟩ := C
  obtain ⟨rfl, rfl, rfl⟩ := Hr
  intro r σ' hX H locs ls hP hS hl
  unfold fh_ry at hX
  split at hX
  · rename_i hv
    subst hv
    cases hX
    exact W.zret hx hb hr rfl (fun t ht hW => ⟨rfl, by rw [ht]; exact hP, hS.F ht⟩) hS.2.2 hd hlk
  · cases hX
variable {y : MethodName} {bytes : ByteArray} {maxL n idx : Nat} {ret : Option FieldType} {rm' : Room} {vw' : β → Option Value} {F : Option (β × fh_S)}
theorem go_callX {X : β → fh_S → Option (α × fh_S)} (C : fh_Cx E M cc nL own rt rm) (As : List Value) {i : Nat} (hM : fh_Met E M.2.1 y bytes maxL ret rm' vw' (.ref (fh_aK E i) :: As) σ F) (hi : ∀ q, F = some q → i < 26) (hst : st0 = As.reverse ++ .ref (fh_aK E i) :: st) (hc : y.cls = "java/lang/String")
    (hw : Cond.methodLink own idx y ∈ fh_T ∧ Cond.instanceMethod y ∈ fh_T ∧ Cond.selects y.cls y y ∈ fh_T ∧ Cond.initialized y.cls ∈ fh_T ∧ Cond.code y bytes maxL ret ∈ fh_T)
    (hd' : y.cls ≠ "java/lang/invoke/MethodHandle" ∧ y.cls ≠ "java/lang/invoke/VarHandle" ∧ (parseMethodDescriptor y.desc).map (fun d => d.parameters.length) = some n) (hn : As.length = n)
    (hR : (rm'.frames + 1 ≤ rm.frames ∧ 8 + (maxL + 11) + rm'.locals ≤ rm.locals) ∧ rm'.cells = 0 ∧ rm'.slots = 0) (hcat : (st.map fun v => v.category).sum ≤ 8) (hd : decode cc pc = .ok (.invokevirtual idx, 3))
    (K : ∀ (r : β) (σ1 : fh_S), fh_Go E M nL vw (pc + 3) lv ((vw' r).toList ++ st) σ1 (X r σ1)) : fh_Go E M nL vw pc lv st0 σ (fh_cb F X) := by
  obtain ⟨p, l, e, R, s, m, args, below, meth, c, cl, sl, Qf⟩ := M
  obtain ⟨hx, hb, hml, hown, hts, hlk, hr, hRR, hK, hE, hok, hcl⟩ := C
  intro r σ' hX H locs ls hP hS hl
  cases hF : F with
  | none => rw [hF] at hX; cases hX
  | some q =>
    have hi := hi q hF
    obtain ⟨r1, σ1⟩ := q
    rw [hF] at hX
    subst hRR
    subst hst
    have hG : GoodIn fh_T (wsV own idx y.cls y (fh_w y bytes maxL ret)) := by
      intro w hw'
      unfold wsV at hw'
      rcases List.mem_append.mp hw' with h | h
      · simp only [List.mem_cons, List.not_mem_nil, or_false] at h
        rcases h with rfl | rfl | rfl | rfl
        · exact ⟨hw.1, fh_good hw.1⟩
        · exact ⟨hw.2.1, fh_good hw.2.1⟩
        · exact ⟨hw.2.2.1, fh_good hw.2.2.1⟩
        · exact ⟨hw.2.2.2.1, fh_good hw.2.2.2.1⟩
      · exact fh_gw hw.2.2.2.2 w h
    have hrc : ∃ cell : Cell, H[fh_aK E i]? = some cell ∧ cell.vm.isStatics = false ∧ s.vm.findClass y.cls = some cell.cls := by
      obtain ⟨cell, h1, h2, h3, -⟩ := (hE.2.2.2.2.1 i hi).1.kept hS.2.1
      exact ⟨cell, h1, h2, by rw [hc]; exact h3⟩
    refine fh_after (va_runV (As := As) (rest := st) (Ts := fh_T) (C := y.cls) ⟨hx, hb, hml, hown, hts⟩ (hM r1 σ1 hF) (cwV n hts hG rfl hR.2.1 hR.2.2 ⟨rfl, hd'⟩ hR.1) ⟨fh_blind, hrc, fun U hU hW => ⟨rfl, by rw [hU]; exact hP, va_K.moved hW.alike hK, fh_X_go hE hS hU hW⟩⟩ rfl hn hl.1 rfl (lv_room hcat) hd hcl) hS (fun H1 locs1 hP1 hS1 => ?_)
    exact K r1 σ1 r σ' hX H1 locs1 ls hP1 hS1 hl
theorem go_callVI {F : Option (Int32 × fh_S)} {X : Int32 → fh_S → Option (α × fh_S)} (C : fh_Cx E M cc nL own rt rm) (As : List Value) {k ci N : Nat} {T : u_T} (hM : fh_Met E M.2.1 y bytes maxL ret rm' fh_vI (.ref (fh_ad E k) :: As) σ F) (hq : ∀ q, F = some q → fh_isC ci k = true) (hst : st0 = As.reverse ++ .ref (fh_ad E k) :: st) (hc : fh_cl[ci]? = some (y.cls, T, N)) (hw : Cond.methodLink own idx y ∈ fh_T ∧ Cond.instanceMethod y ∈ fh_T ∧ Cond.selects y.cls y y ∈ fh_T ∧ Cond.initialized y.cls ∈ fh_T ∧ Cond.code y bytes maxL ret ∈ fh_T) (hd' : y.cls ≠ "java/lang/invoke/MethodHandle" ∧ y.cls ≠ "java/lang/invoke/VarHandle" ∧ (parseMethodDescriptor y.desc).map (fun d => d.parameters.length) = some n) (hn : As.length = n) (hR : (rm'.frames + 1 ≤ rm.frames ∧ 8 + (maxL + 11) + rm'.locals ≤ rm.locals) ∧ rm'.cells = 0 ∧ rm'.slots = 0) (hcat : (st.map fun v => v.category).sum ≤ 8) (hd : decode cc pc = .ok (.invokevirtual idx, 3)) (K : ∀ (r : Int32) (σ1 : fh_S), fh_Go E M nL vw (pc + 3) lv (.int r :: st) σ1 (X r σ1)) : fh_Go E M nL vw pc lv st0 σ (fh_cb F X) := go_callV C As hM hq hst hc hw hd' hn hR hcat hd K
theorem go_callVU {F : Option (Unit × fh_S)} {X : Unit → fh_S → Option (α × fh_S)} (C : fh_Cx E M cc nL own rt rm) (As : List Value) {k ci N : Nat} {T : u_T} (hM : fh_Met E M.2.1 y bytes maxL ret rm' fh_vU (.ref (fh_ad E k) :: As) σ F) (hq : ∀ q, F = some q → fh_isC ci k = true) (hst : st0 = As.reverse ++ .ref (fh_ad E k) :: st) (hc : fh_cl[ci]? = some (y.cls, T, N)) (hw : Cond.methodLink own idx y ∈ fh_T ∧ Cond.instanceMethod y ∈ fh_T ∧ Cond.selects y.cls y y ∈ fh_T ∧ Cond.initialized y.cls ∈ fh_T ∧ Cond.code y bytes maxL ret ∈ fh_T) (hd' : y.cls ≠ "java/lang/invoke/MethodHandle" ∧ y.cls ≠ "java/lang/invoke/VarHandle" ∧ (parseMethodDescriptor y.desc).map (fun d => d.parameters.length) = some n) (hn : As.length = n) (hR : (rm'.frames + 1 ≤ rm.frames ∧ 8 + (maxL + 11) + rm'.locals ≤ rm.locals) ∧ rm'.cells = 0 ∧ rm'.slots = 0) (hcat : (st.map fun v => v.category).sum ≤ 8) (hd : decode cc pc = .ok (.invokevirtual idx, 3)) (K : ∀ (r : Unit) (σ1 : fh_S), fh_Go E M nL vw (pc + 3) lv (st) σ1 (X r σ1)) : fh_Go E M nL vw pc lv st0 σ (fh_cb F X) := go_callV C As hM hq hst hc hw hd' hn hR hcat hd K
theorem go_callVR {F : Option (Option Nat × fh_S)} {X : Option Nat → fh_S → Option (α × fh_S)} (C : fh_Cx E M cc nL own rt rm) (As : List Value) {k ci N : Nat} {T : u_T} (hM : fh_Met E M.2.1 y bytes maxL ret rm' (fh_vR E) (.ref (fh_ad E k) :: As) σ F) (hq : ∀ q, F = some q → fh_isC ci k = true) (hst : st0 = As.reverse ++ .ref (fh_ad E k) :: st) (hc : fh_cl[ci]? = some (y.cls, T, N)) (hw : Cond.methodLink own idx y ∈ fh_T ∧ Cond.instanceMethod y ∈ fh_T ∧ Cond.selects y.cls y y ∈ fh_T ∧ Cond.initialized y.cls ∈ fh_T ∧ Cond.code y bytes maxL ret ∈ fh_T) (hd' : y.cls ≠ "java/lang/invoke/MethodHandle" ∧ y.cls ≠ "java/lang/invoke/VarHandle" ∧ (parseMethodDescriptor y.desc).map (fun d => d.parameters.length) = some n) (hn : As.length = n) (hR : (rm'.frames + 1 ≤ rm.frames ∧ 8 + (maxL + 11) + rm'.locals ≤ rm.locals) ∧ rm'.cells = 0 ∧ rm'.slots = 0) (hcat : (st.map fun v => v.category).sum ≤ 8) (hd : decode cc pc = .ok (.invokevirtual idx, 3)) (K : ∀ (r : Option Nat) (σ1 : fh_S), fh_Go E M nL vw (pc + 3) lv (va_rf (r.map (fh_ad E)) :: st) σ1 (X r σ1)) : fh_Go E M nL vw pc lv st0 σ (fh_cb F X) := go_callV C As hM hq hst hc hw hd' hn hR hcat hd K
theorem go_callVG {F : Option (Nat × fh_S)} {X : Nat → fh_S → Option (α × fh_S)} (C : fh_Cx E M cc nL own rt rm) (As : List Value) {k ci N : Nat} {T : u_T} (hM : fh_Met E M.2.1 y bytes maxL ret rm' (fh_vS E) (.ref (fh_ad E k) :: As) σ F) (hq : ∀ q, F = some q → fh_isC ci k = true) (hst : st0 = As.reverse ++ .ref (fh_ad E k) :: st) (hc : fh_cl[ci]? = some (y.cls, T, N)) (hw : Cond.methodLink own idx y ∈ fh_T ∧ Cond.instanceMethod y ∈ fh_T ∧ Cond.selects y.cls y y ∈ fh_T ∧ Cond.initialized y.cls ∈ fh_T ∧ Cond.code y bytes maxL ret ∈ fh_T) (hd' : y.cls ≠ "java/lang/invoke/MethodHandle" ∧ y.cls ≠ "java/lang/invoke/VarHandle" ∧ (parseMethodDescriptor y.desc).map (fun d => d.parameters.length) = some n) (hn : As.length = n) (hR : (rm'.frames + 1 ≤ rm.frames ∧ 8 + (maxL + 11) + rm'.locals ≤ rm.locals) ∧ rm'.cells = 0 ∧ rm'.slots = 0) (hcat : (st.map fun v => v.category).sum ≤ 8) (hd : decode cc pc = .ok (.invokevirtual idx, 3)) (K : ∀ (r : Nat) (σ1 : fh_S), fh_Go E M nL vw (pc + 3) lv (.ref (fh_aK E r) :: st) σ1 (X r σ1)) : fh_Go E M nL vw pc lv st0 σ (fh_cb F X) := go_callV C As hM hq hst hc hw hd' hn hR hcat hd K
theorem go_callXI {F : Option (Int32 × fh_S)} {X : Int32 → fh_S → Option (α × fh_S)} (C : fh_Cx E M cc nL own rt rm) (As : List Value) {i : Nat} (hM : fh_Met E M.2.1 y bytes maxL ret rm' fh_vI (.ref (fh_aK E i) :: As) σ F) (hi : ∀ q, F = some q → i < 26) (hst : st0 = As.reverse ++ .ref (fh_aK E i) :: st) (hc : y.cls = "java/lang/String") (hw : Cond.methodLink own idx y ∈ fh_T ∧ Cond.instanceMethod y ∈ fh_T ∧ Cond.selects y.cls y y ∈ fh_T ∧ Cond.initialized y.cls ∈ fh_T ∧ Cond.code y bytes maxL ret ∈ fh_T) (hd' : y.cls ≠ "java/lang/invoke/MethodHandle" ∧ y.cls ≠ "java/lang/invoke/VarHandle" ∧ (parseMethodDescriptor y.desc).map (fun d => d.parameters.length) = some n) (hn : As.length = n) (hR : (rm'.frames + 1 ≤ rm.frames ∧ 8 + (maxL + 11) + rm'.locals ≤ rm.locals) ∧ rm'.cells = 0 ∧ rm'.slots = 0) (hcat : (st.map fun v => v.category).sum ≤ 8) (hd : decode cc pc = .ok (.invokevirtual idx, 3)) (K : ∀ (r : Int32) (σ1 : fh_S), fh_Go E M nL vw (pc + 3) lv (.int r :: st) σ1 (X r σ1)) : fh_Go E M nL vw pc lv st0 σ (fh_cb F X) := go_callX C As hM hi hst hc hw hd' hn hR hcat hd K
theorem go_callSI {F : Option (Int32 × fh_S)} {X : Int32 → fh_S → Option (α × fh_S)} (C : fh_Cx E M cc nL own rt rm) (As : List Value) (hM : fh_Met E M.2.1 y bytes maxL ret rm' fh_vI As σ F) (hst : st0 = As.reverse ++ st) (hw : Cond.methodLink own idx y ∈ fh_T ∧ Cond.static y ∈ fh_T ∧ Cond.initialized y.cls ∈ fh_T ∧ Cond.code y bytes maxL ret ∈ fh_T) (hd' : y.cls ≠ "java/lang/invoke/MethodHandle" ∧ y.cls ≠ "java/lang/invoke/VarHandle" ∧ (parseMethodDescriptor y.desc).map (fun d => d.parameters.length) = some n) (hn : As.length = n) (hR : (rm'.frames + 1 ≤ rm.frames ∧ 8 + (maxL + 11) + rm'.locals ≤ rm.locals) ∧ rm'.cells = 0 ∧ rm'.slots = 0) (hcat : (st.map fun v => v.category).sum ≤ 8) (hd : decode cc pc = .ok (.invokestatic idx, 3)) (K : ∀ (r : Int32) (σ1 : fh_S), fh_Go E M nL vw (pc + 3) lv (.int r :: st) σ1 (X r σ1)) : fh_Go E M nL vw pc lv st0 σ (fh_cb F X) := go_callS C As hM hst hw hd' hn hR hcat hd K
theorem go_callSU {F : Option (Unit × fh_S)} {X : Unit → fh_S → Option (α × fh_S)} (C : fh_Cx E M cc nL own rt rm) (As : List Value) (hM : fh_Met E M.2.1 y bytes maxL ret rm' fh_vU As σ F) (hst : st0 = As.reverse ++ st) (hw : Cond.methodLink own idx y ∈ fh_T ∧ Cond.static y ∈ fh_T ∧ Cond.initialized y.cls ∈ fh_T ∧ Cond.code y bytes maxL ret ∈ fh_T) (hd' : y.cls ≠ "java/lang/invoke/MethodHandle" ∧ y.cls ≠ "java/lang/invoke/VarHandle" ∧ (parseMethodDescriptor y.desc).map (fun d => d.parameters.length) = some n) (hn : As.length = n) (hR : (rm'.frames + 1 ≤ rm.frames ∧ 8 + (maxL + 11) + rm'.locals ≤ rm.locals) ∧ rm'.cells = 0 ∧ rm'.slots = 0) (hcat : (st.map fun v => v.category).sum ≤ 8) (hd : decode cc pc = .ok (.invokestatic idx, 3)) (K : ∀ (r : Unit) (σ1 : fh_S), fh_Go E M nL vw (pc + 3) lv (st) σ1 (X r σ1)) : fh_Go E M nL vw pc lv st0 σ (fh_cb F X) := go_callS C As hM hst hw hd' hn hR hcat hd K
theorem go_callSR {F : Option (Option Nat × fh_S)} {X : Option Nat → fh_S → Option (α × fh_S)} (C : fh_Cx E M cc nL own rt rm) (As : List Value) (hM : fh_Met E M.2.1 y bytes maxL ret rm' (fh_vR E) As σ F) (hst : st0 = As.reverse ++ st) (hw : Cond.methodLink own idx y ∈ fh_T ∧ Cond.static y ∈ fh_T ∧ Cond.initialized y.cls ∈ fh_T ∧ Cond.code y bytes maxL ret ∈ fh_T) (hd' : y.cls ≠ "java/lang/invoke/MethodHandle" ∧ y.cls ≠ "java/lang/invoke/VarHandle" ∧ (parseMethodDescriptor y.desc).map (fun d => d.parameters.length) = some n) (hn : As.length = n) (hR : (rm'.frames + 1 ≤ rm.frames ∧ 8 + (maxL + 11) + rm'.locals ≤ rm.locals) ∧ rm'.cells = 0 ∧ rm'.slots = 0) (hcat : (st.map fun v => v.category).sum ≤ 8) (hd : decode cc pc = .ok (.invokestatic idx, 3)) (K : ∀ (r : Option Nat) (σ1 : fh_S), fh_Go E M nL vw (pc + 3) lv (va_rf (r.map (fh_ad E)) :: st) σ1 (X r σ1)) : fh_Go E M nL vw pc lv st0 σ (fh_cb F X) := go_callS C As hM hst hw hd' hn hR hcat hd K
theorem go_callSG {F : Option (Nat × fh_S)} {X : Nat → fh_S → Option (α × fh_S)} (C : fh_Cx E M cc nL own rt rm) (As : List Value) (hM : fh_Met E M.2.1 y bytes maxL ret rm' (fh_vS E) As σ F) (hst : st0 = As.reverse ++ st) (hw : Cond.methodLink own idx y ∈ fh_T ∧ Cond.static y ∈ fh_T ∧ Cond.initialized y.cls ∈ fh_T ∧ Cond.code y bytes maxL ret ∈ fh_T) (hd' : y.cls ≠ "java/lang/invoke/MethodHandle" ∧ y.cls ≠ "java/lang/invoke/VarHandle" ∧ (parseMethodDescriptor y.desc).map (fun d => d.parameters.length) = some n) (hn : As.length = n) (hR : (rm'.frames + 1 ≤ rm.frames ∧ 8 + (maxL + 11) + rm'.locals ≤ rm.locals) ∧ rm'.cells = 0 ∧ rm'.slots = 0) (hcat : (st.map fun v => v.category).sum ≤ 8) (hd : decode cc pc = .ok (.invokestatic idx, 3)) (K : ∀ (r : Nat) (σ1 : fh_S), fh_Go E M nL vw (pc + 3) lv (.ref (fh_aK E r) :: st) σ1 (X r σ1)) : fh_Go E M nL vw pc lv st0 σ (fh_cb F X) := go_callS C As hM hst hw hd' hn hR hcat hd K
theorem go_callNI {F : Option (Int32 × fh_S)} {X : Int32 → fh_S → Option (α × fh_S)} (C : fh_Cx E M cc nL own rt rm) (As : List Value) (hM : fh_Met E M.2.1 y bytes maxL ret rm' fh_vI As σ F) (hst : st0 = As.reverse ++ st) (hw : Cond.methodLinkNest own idx y "FollowedHours" ∈ fh_nest ∧ Cond.static y ∈ fh_T ∧ Cond.initialized y.cls ∈ fh_T ∧ Cond.code y bytes maxL ret ∈ fh_T) (hd' : y.cls ≠ "java/lang/invoke/MethodHandle" ∧ y.cls ≠ "java/lang/invoke/VarHandle" ∧ (parseMethodDescriptor y.desc).map (fun d => d.parameters.length) = some n) (hn : As.length = n) (hR : (rm'.frames + 1 ≤ rm.frames ∧ 8 + (maxL + 11) + rm'.locals ≤ rm.locals) ∧ rm'.cells = 0 ∧ rm'.slots = 0) (hcat : (st.map fun v => v.category).sum ≤ 8) (hd : decode cc pc = .ok (.invokestatic idx, 3)) (K : ∀ (r : Int32) (σ1 : fh_S), fh_Go E M nL vw (pc + 3) lv (.int r :: st) σ1 (X r σ1)) : fh_Go E M nL vw pc lv st0 σ (fh_cb F X) := go_callN C As "FollowedHours" hM hst hw hd' hn hR hcat hd K

end FHMORE
