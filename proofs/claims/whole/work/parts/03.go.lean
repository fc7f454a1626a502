/-! ===== the abstract store: cell k, place j; all references are fixed ===== -/
abbrev fh_S : Type := Nat → Nat → Int32
abbrev fh_E : Type := va_G × (ClassId × ClassId × ClassId) × (Nat → Nat) × (Nat → Nat) × (Nat → Nat) × Nat × (Nat → Prop)
def fh_D (E : fh_E) : va_G := E.1
def fh_cI (E : fh_E) : ClassId := E.2.1.1
def fh_cS (E : fh_E) : ClassId := E.2.1.2.1
def fh_cT (E : fh_E) : ClassId := E.2.1.2.2
def fh_ad (E : fh_E) : Nat → Nat := E.2.2.1
def fh_aK (E : fh_E) : Nat → Nat := E.2.2.2.1
def fh_aV (E : fh_E) : Nat → Nat := E.2.2.2.2.1
def fh_tu (E : fh_E) : Nat := E.2.2.2.2.2.1
def fh_A (E : fh_E) : Nat → Prop := E.2.2.2.2.2.2
/-- the shape of a cell: an int[] of so many; an object (its class's number; a field is an int or a fixed cell); Sheet[] (true), String[] (false) -/
abbrev fh_Sh : Type := Nat ⊕ ((Nat × List (Option Nat)) ⊕ Bool)
def fh_gsh (g : Nat) : List fh_Sh := .inr (.inl (0, [some (g+1), some (g+2), some (g+3), some (g+4), some (g+5), some (g+6), some (g+7), some (g+8), some (g+9), none, none, none])) :: List.replicate 9 (.inl 10)
def fh_tab : List fh_Sh :=
  [.inr (.inl (4, [some 1, some 11, some 21, some 31, some 33, some 34, some 43, none]))] ++ fh_gsh 1 ++ fh_gsh 11 ++ fh_gsh 21 ++
  [.inr (.inl (3, [some 32, none])), .inl 120, .inr (.inl (1, [some 31, none, none, none, none, none])), .inr (.inr true),
   .inr (.inl (2, [some 36, none, none])), .inl 40, .inr (.inl (2, [some 38, none, none])), .inl 40, .inr (.inl (2, [some 40, none, none])), .inl 40, .inr (.inl (2, [some 42, none, none])), .inl 40, .inl 7,
   .inr (.inl (5, [some 45, some 46, some 47, none, some 48, some 49, some 50, none, none, none, none, none, none, some 51, some 52, none, none, some 53, some 54, some 55, some 56])),
   .inl 73, .inl 73, .inl 73, .inl 8, .inl 10, .inl 120, .inr (.inr false), .inl 720, .inl 4, .inl 4, .inl 160, .inl 40]
theorem fh_tab_len : fh_tab.length = 57 := by decide +kernel
def fh_shp (k : Nat) : Option fh_Sh := fh_tab[k]?
def fh_ce (E : fh_E) (f : Nat → Int32) (sh : fh_Sh) : va_E := match sh with
  | .inl n => .inl (fh_cI E, n, .inl f)
  | .inr (.inl (ci, fs)) => .inr (ci, fs.mapIdx (fun j o => match o with
    | none => Value.int (f j)
    | some q => .ref (fh_ad E q)))
  | .inr (.inr true) => .inl (fh_cS E, 4, .inr (.inr (.inr (.inr (fun j => some (fh_ad E (35 + 2 * j)))))))
  | .inr (.inr false) => .inl (fh_cT E, 7, .inr (.inr (.inr (.inr (fun j => some (fh_aK E (13 + j)))))))
def fh_ws (E : fh_E) (σ : fh_S) : va_W := fh_tab.mapIdx (fun k sh => (fh_ad E k, fh_ce E (σ k) sh))
def fh_row (σ : fh_S) (k : Nat) (f : Nat → Int32) : fh_S := fun a => if a = k then f else σ a
theorem fh_row_s {σ : fh_S} {k : Nat} {f : Nat → Int32} : fh_row σ k f k = f := if_pos rfl
theorem fh_row_n {σ : fh_S} {k a : Nat} {f : Nat → Int32} (h : a ≠ k) : fh_row σ k f a = σ a := if_neg h
theorem fh_look {E : fh_E} {σ : fh_S} {k : Nat} {sh : fh_Sh} (h : fh_shp k = some sh) : (fh_ws E σ)[k]? = some (fh_ad E k, fh_ce E (σ k) sh) := by
  unfold fh_ws
  rw [List.getElem?_mapIdx]
  unfold fh_shp at h
  rw [h]
  rfl
theorem fh_set {E : fh_E} {σ : fh_S} {k : Nat} {sh : fh_Sh} {f : Nat → Int32} (h : fh_shp k = some sh) : (fh_ws E σ).set k (fh_ad E k, fh_ce E f sh) = fh_ws E (fh_row σ k f) := by
  unfold fh_shp at h
  have hl : k < fh_tab.length := (List.getElem?_eq_some_iff.mp h).1
  apply List.ext_getElem?
  intro i
  unfold fh_ws
  by_cases hi : i = k
  · subst hi
    rw [List.getElem?_set_self (by simpa using hl), List.getElem?_mapIdx, h]
    simp [fh_row]
  · rw [List.getElem?_set_ne (Ne.symm hi), List.getElem?_mapIdx, List.getElem?_mapIdx]
    simp [fh_row, hi]
def fh_ok (E : fh_E) : Prop := (∀ i j, i < 57 → j < 57 → fh_ad E i = fh_ad E j → i = j) ∧ ∀ k, k < 57 → fh_A E (fh_ad E k)
theorem fh_hD {E : fh_E} (h : fh_ok E) (σ : fh_S) : va_D (fh_A E) (fh_ws E σ) := by
  have key : ∀ (k : Nat) (q : Nat × va_E), (fh_ws E σ)[k]? = some q → k < 57 ∧ q.1 = fh_ad E k := by
    intro k q hq
    unfold fh_ws at hq
    rw [List.getElem?_mapIdx] at hq
    cases ht : fh_tab[k]? with
    | none => rw [ht] at hq; cases hq
    | some sh =>
      rw [ht] at hq
      cases hq
      have := (List.getElem?_eq_some_iff.mp ht).1
      rw [fh_tab_len] at this
      exact ⟨this, rfl⟩
  refine ⟨fun i j p q hi hj e => ?_, fun k q hk => ?_⟩
  · obtain ⟨a1, a2⟩ := key i p hi
    obtain ⟨b1, b2⟩ := key j q hj
    exact h.1 i j a1 b1 (by rw [← a2, ← b2]; exact e)
  · obtain ⟨a1, a2⟩ := key k q hk
    rw [a2]
    exact h.2 k a1
/-! what an instruction does to the store; none: it can't be so -/
def fh_arr (k : Nat) : Option Nat := match fh_shp k with
  | some (.inl n) => some n
  | _ => none
def fh_obj (ci k : Nat) : Option (List (Option Nat)) := match fh_shp k with
  | some (.inr (.inl (c, fs))) => if c = ci then some fs else none
  | _ => none
def fh_isC (ci k : Nat) : Bool := (fh_obj ci k).isSome
def fh_ld (σ : fh_S) (k : Nat) (i : Int32) : Option Int32 := (fh_arr k).bind fun n => if i < 0 ∨ n ≤ i.toNatClampNeg then none else some (σ k i.toNatClampNeg)
def fh_st (σ : fh_S) (k : Nat) (i v : Int32) : Option fh_S := (fh_arr k).bind fun n => if i < 0 ∨ n ≤ i.toNatClampNeg then none else some (fh_row σ k (upd (σ k) i.toNatClampNeg v))
def fh_ln (k : Nat) : Option Int32 := match fh_shp k with
  | some (.inl n) => some (Int32.ofNat n)
  | some (.inr (.inr false)) => some 7
  | _ => none
def fh_gi (σ : fh_S) (ci k j : Nat) : Option Int32 := (fh_obj ci k).bind fun fs => match fs[j]? with
  | some none => some (σ k j)
  | _ => none
def fh_gr (ci k j : Nat) : Option Nat := (fh_obj ci k).bind fun fs => match fs[j]? with
  | some (some q) => some q
  | _ => none
def fh_pf (σ : fh_S) (ci k j : Nat) (v : Int32) : Option fh_S := (fh_obj ci k).bind fun fs => match fs[j]? with
  | some none => some (fh_row σ k (upd (σ k) j v))
  | _ => none
def fh_pz (σ : fh_S) (ci k j : Nat) (v : Int32) : Option fh_S := if v = 0 ∨ v = 1 then fh_pf σ ci k j v else none
def fh_lr (k : Nat) (i : Int32) : Option Nat := match fh_shp k with
  | some (.inr (.inr true)) => if i < 0 ∨ 4 ≤ i.toNatClampNeg then none else some (35 + 2 * i.toNatClampNeg)
  | _ => none
def fh_ls (k : Nat) (i : Int32) : Option Nat := match fh_shp k with
  | some (.inr (.inr false)) => if i < 0 ∨ 7 ≤ i.toNatClampNeg then none else some (13 + i.toNatClampNeg)
  | _ => none
def fh_cp (σ : fh_S) (k1 : Nat) (sp : Int32) (k2 : Nat) (dp n : Int32) : Option fh_S := (fh_arr k1).bind fun n1 => (fh_arr k2).bind fun n2 =>
  if sp < 0 ∨ dp < 0 ∨ n < 0 ∨ n1 < sp.toNatClampNeg + n.toNatClampNeg ∨ n2 < dp.toNatClampNeg + n.toNatClampNeg then none
  else some (fh_row σ k2 (va_cpy (σ k1) (σ k2) sp.toNatClampNeg dp.toNatClampNeg n.toNatClampNeg))
def fh_uk : List Int32 := [-1, 0, 0, 2, 3, 0, 1]
def fh_tk (i : Int32) : Option Int32 := if i < 0 ∨ 7 ≤ i.toNatClampNeg then none else some (fh_uk.getD i.toNatClampNeg 0)
/-- an instance method's body: of an object of its class alone -/
def fh_ob {β : Type} (ci k : Nat) (x : Option β) : Option β := if fh_isC ci k = true then x else none
theorem fh_ob_ok {β : Type} {ci k : Nat} {x : Option β} {y : β} (h : fh_ob ci k x = some y) : fh_isC ci k = true := by
  unfold fh_ob at h
  split at h
  · assumption
  · cases h
/-- behind a call -/
def fh_cb {α β : Type} (x : Option (α × fh_S)) (f : α → fh_S → Option β) : Option β := x.bind fun q => f q.1 q.2
theorem fh_cb_s {α β : Type} {r : α} {σ : fh_S} {f : α → fh_S → Option β} : fh_cb (some (r, σ)) f = f r σ := rfl
/-- a boolean's return -/
def fh_rz (v : Int32) (σ : fh_S) : Option (Int32 × fh_S) := if v = 0 ∨ v = 1 then some (v, σ) else none
def fh_vI : Int32 → Option Value := fun r => some (.int r)
def fh_vL : Int64 → Option Value := fun r => some (.long r)
def fh_vU : Unit → Option Value := fun _ => none
def fh_vR (E : fh_E) : Option Nat → Option Value := fun o => some (va_rf (o.map (fh_ad E)))
def fh_vS (E : fh_E) : Nat → Option Value := fun i => some (.ref (fh_aK E i))
/-! ===== what stands outside: the table of kinds, the String constants, the nest's links ===== -/
def fh_txt : List (List Int32) := [[100, 105, 97, 108], [108, 97, 116, 101], [116, 119, 105, 110], [98, 97, 99, 107], [112, 114, 111, 117, 100], [104, 97, 108, 102], [108, 97, 116, 101, 114], [109, 97, 115, 116, 101, 114], [115, 104, 111, 119, 115], [102, 111, 108, 108, 111, 119, 115], [103, 111, 101, 115], [109, 111, 115, 115], [115, 116, 111, 112, 112, 101, 100], [100, 105, 97, 108], [108, 97, 116, 101], [116, 119, 105, 110], [98, 97, 99, 107], [112, 114, 111, 117, 100], [104, 97, 108, 102], [108, 97, 116, 101, 114], [109, 97, 115, 116, 101, 114], [115, 104, 111, 119, 115], [102, 111, 108, 108, 111, 119, 115], [103, 111, 101, 115], [109, 111, 115, 115], [115, 116, 111, 112, 112, 101, 100]]
def fh_tx (i : Nat) : List Int32 := fh_txt.getD i []
def fh_sl (i : Nat) : Nat := (fh_tx i).length
def fh_so : List (String × Nat × String) := [("FollowedHours$Reader", 137, "dial"), ("FollowedHours$Reader", 125, "late"), ("FollowedHours$Reader", 127, "twin"), ("FollowedHours$Reader", 129, "back"), ("FollowedHours$Reader", 131, "proud"), ("FollowedHours$Reader", 133, "half"), ("FollowedHours$Reader", 135, "later"), ("FollowedHours$Reader", 25, "master"), ("FollowedHours$Reader", 72, "shows"), ("FollowedHours$Reader", 77, "follows"), ("FollowedHours$Reader", 79, "goes"), ("FollowedHours$Reader", 84, "moss"), ("FollowedHours$Reader", 89, "stopped"), ("FollowedHoursModel", 30, "dial"), ("FollowedHoursModel", 32, "late"), ("FollowedHoursModel", 34, "twin"), ("FollowedHoursModel", 36, "back"), ("FollowedHoursModel", 38, "proud"), ("FollowedHoursModel", 40, "half"), ("FollowedHoursModel", 42, "later"), ("FollowedHoursModel", 300, "master"), ("FollowedHoursModel", 280, "shows"), ("FollowedHoursModel", 285, "follows"), ("FollowedHoursModel", 287, "goes"), ("FollowedHoursModel", 292, "moss"), ("FollowedHoursModel", 294, "stopped")]
def fh_nest : List Cond := [(Jvm.Cond.methodLinkNest "FollowedHours" (24 : Nat) ({ cls := "FollowedHours$Tape", name := "<init>", desc := "()V" } : Jvm.MethodName) "FollowedHours"), (Jvm.Cond.methodLinkNest "FollowedHours" (44 : Nat) ({ cls := "FollowedHours$Sheet", name := "<init>", desc := "()V" } : Jvm.MethodName) "FollowedHours"), (Jvm.Cond.methodLinkNest "FollowedHours$Garden" (61 : Nat) ({ cls := "FollowedHours", name := "isKind", desc := "(I)Z" } : Jvm.MethodName) "FollowedHours"), (Jvm.Cond.methodLinkNest "FollowedHours$Garden" (65 : Nat) ({ cls := "FollowedHours", name := "isHour", desc := "(I)Z" } : Jvm.MethodName) "FollowedHours"), (Jvm.Cond.methodLinkNest "FollowedHours$Garden" (71 : Nat) ({ cls := "FollowedHours", name := "isWithin", desc := "(III)Z" } : Jvm.MethodName) "FollowedHours"), (Jvm.Cond.methodLinkNest "FollowedHours$Garden" (75 : Nat) ({ cls := "FollowedHours", name := "roundHour", desc := "(I)I" } : Jvm.MethodName) "FollowedHours"), (Jvm.Cond.methodLinkNest "FollowedHours$Garden" (125 : Nat) ({ cls := "FollowedHours", name := "lowestOf", desc := "(I)I" } : Jvm.MethodName) "FollowedHours"), (Jvm.Cond.methodLinkNest "FollowedHours$Garden" (128 : Nat) ({ cls := "FollowedHours", name := "isIn", desc := "(II)Z" } : Jvm.MethodName) "FollowedHours"), (Jvm.Cond.fieldLinkNest "FollowedHours$Reader" (118 : Nat) "FollowedHours" "UPPER_KIND" "[I" "FollowedHours")]
def fh_Str (E : fh_E) (U : State) (i : Nat) : Prop := va_O "java/lang/String" (fh_aK E i) (fh_A E) U U.heap ∧ va_OF "java/lang/String" "coder" "B" (.int 0) (fh_aK E i) (fh_A E) U U.heap ∧ va_OF "java/lang/String" "value" "[B" (.ref (fh_aV E i)) (fh_aK E i) (fh_A E) U U.heap ∧ va_T .byte (fh_aV E i) (fh_sl i) (fun j => .int ((fh_tx i).getD j 0)) (fh_A E) U U.heap
def fh_X (E : fh_E) (U : State) : Prop :=
  va_Z "FollowedHours" "UPPER_KIND" "[I" (.ref (fh_tu E)) (fh_A E) U U.heap ∧ va_T .int (fh_tu E) 7 (fun j => .int (fh_uk.getD j 0)) (fh_A E) U U.heap ∧
  va_Z "java/lang/String" "COMPACT_STRINGS" "Z" (.int 1) (fh_A E) U U.heap ∧ va_Zq "jdk/internal/util/Preconditions" "SIOOBE_FORMATTER" "Ljava/util/function/BiFunction;" (fh_A E) U U.heap ∧
  (∀ i, i < 26 → fh_Str E U i) ∧ (∀ (i : Nat) (q : String × Nat × String), fh_so[i]? = some q → vk_R q.1 q.2.1 q.2.2 (fh_aK E i) U) ∧ ∀ w ∈ fh_nest, va_Nw w U
theorem fh_nest_warm {s U : State} (hW : s.WarmedH U.vm) (h : ∀ w ∈ fh_nest, va_Nw w s) : ∀ w ∈ fh_nest, va_Nw w U := by
  intro w hw
  have hs := h w hw
  simp only [fh_nest, List.mem_cons, List.not_mem_nil, or_false] at hw
  rcases hw with rfl | rfl | rfl | rfl | rfl | rfl | rfl | rfl | rfl
  all_goals first | exact va_Nw.warmM hW hs | exact va_Nw.warmF hW hs
theorem fh_X_go {E : fh_E} {s U : State} {H : Heap} {locs : List Loc} (h : fh_X E s) (hS : va_S (fh_A E) s.heap H locs) (hH : U.heap = H) (hW : s.WarmedH U.vm) : fh_X E U := by
  obtain ⟨h1, h2, h3, h4, h5, h6, h7⟩ := h
  have hk := hS.2.1
  have hal := hW.alike
  unfold fh_X fh_Str
  rw [hH]
  exact ⟨(h1.kept hk).moved hal, (h2.kept hk).moved hal, (h3.kept hk).moved hal, (h4.kept hk).moved hal, fun i hi => ⟨((h5 i hi).1.kept hk).moved hal, ((h5 i hi).2.1.kept hk).moved hal, ((h5 i hi).2.2.1.kept hk).moved hal, ((h5 i hi).2.2.2.kept hk).moved hal⟩, fun i q hq => (h6 i q hq).warm hW, fh_nest_warm hW h7⟩
def fh_ty (E : fh_E) : List (ClassId × FieldType) := [(fh_cI E, .int), (fh_cS E, .object RX2), (fh_cT E, .object "java/lang/String")]
def fh_Wd (E : fh_E) (σ : fh_S) (U : State) : Prop := va_P (fh_D E) fh_cl (fh_ws E σ) U.heap ∧ va_K (fh_D E) fh_cl (fh_ty E) U ∧ fh_X E U
def fh_Q (E : fh_E) (v : Option Value) (σ' : fh_S) : Array Value → State → Outcome → State → Prop := fun _ st oc t => oc = .returned v ∧ va_P (fh_D E) fh_cl (fh_ws E σ') t.heap ∧ va_F (fh_A E) st t
/-! ===== Go: from here, with these locals, this stack and this store, the method ends as X says, if X says anything ===== -/
abbrev fh_M : Type := Program × Launch × Env × Room × State × MethodId × Array Value × List Frame × Method × Code × Nat × Nat × (Option Value → fh_S → State → Prop)
def fh_Cx (E : fh_E) (M : fh_M) (cc : ByteArray) (nL : Nat) (own : String) (rt : Option FieldType) (rm : Room) : Prop := match M with
  | (p, _, _, R, s, m, args, _, meth, c, cl, sl, _) => p.tables.exec = Jvm.exec ∧ c.code = cc ∧ c.maxLocals = nL ∧ s.vm.findClass own = some m.cls ∧ (∀ w ∈ fh_T, w.before args s = true) ∧ meth.locks = false ∧ meth.sig.returnType = rt ∧ R = rm ∧ va_K (fh_D E) fh_cl (fh_ty E) s ∧ fh_X E s ∧ fh_ok E ∧ cl ≤ R.cells ∧ sl ≤ R.slots
/-- the ends of a method that makes nothing -/
def fh_Rt (E : fh_E) (M : fh_M) : Prop := match M with
  | (_, _, _, _, s, _, args, below, _, _, cl, sl, Qf) => cl = 0 ∧ sl = 0 ∧ Qf = fun v σ' => MQ below (fh_Q E v σ') args s 0 0 (fh_A E)
def fh_Go {α : Type} (E : fh_E) (M : fh_M) (nL : Nat) (vw : α → Option Value) (pc : Nat) (lv : List (Nat × Value)) (st : List Value) (σ : fh_S) (X : Option (α × fh_S)) : Prop := match M with
  | (p, l, e, R, s, m, args, below, meth, c, cl, sl, Qf) => ∀ (r : α) (σ' : fh_S), X = some (r, σ') → ∀ (H : Heap) (locs : List Loc) (ls : Array Slot), va_P (fh_D E) fh_cl (fh_ws E σ) H → va_S (fh_A E) s.heap H locs → lv_has ls nL lv →
    W p l e R s m args below meth c H locs cl sl (Qf (vw r) σ') (F0 m pc ls st)
section FHGO
variable {α : Type} {E : fh_E} {M : fh_M} {cc : ByteArray} {nL : Nat} {own : String} {rt : Option FieldType} {rm : Room} {vw : α → Option Value} {pc : Nat} {lv : List (Nat × Value)} {st : List Value} {σ : fh_S} {X : Option (α × fh_S)}
theorem go_iadd (C : fh_Cx E M cc nL own rt rm) {x y : Int32} (hd : decode cc pc = .ok (.iadd, 1)) (K : fh_Go E M nL vw (pc + 1) lv (.int (x + y) :: st) σ X) : fh_Go E M nL vw pc lv (.int y :: .int x :: st) σ X := by
  obtain ⟨p, l, e, R, s, m, args, below, meth, c, cl, sl, Qf⟩ := M
  obtain ⟨hx, hb, hml, hown, hts, hlk, hr, hR, hK, hE, hok, hcl⟩ := C
  intro r σ' hX H locs ls hP hS hl
  exact lv_iadd hx hb hd (K r σ' hX H locs ls hP hS hl)
theorem go_isub (C : fh_Cx E M cc nL own rt rm) {x y : Int32} (hd : decode cc pc = .ok (.isub, 1)) (K : fh_Go E M nL vw (pc + 1) lv (.int (x - y) :: st) σ X) : fh_Go E M nL vw pc lv (.int y :: .int x :: st) σ X := by
  obtain ⟨p, l, e, R, s, m, args, below, meth, c, cl, sl, Qf⟩ := M
  obtain ⟨hx, hb, hml, hown, hts, hlk, hr, hR, hK, hE, hok, hcl⟩ := C
  intro r σ' hX H locs ls hP hS hl
  exact lv_isub hx hb hd (K r σ' hX H locs ls hP hS hl)
theorem go_imul (C : fh_Cx E M cc nL own rt rm) {x y : Int32} (hd : decode cc pc = .ok (.imul, 1)) (K : fh_Go E M nL vw (pc + 1) lv (.int (x * y) :: st) σ X) : fh_Go E M nL vw pc lv (.int y :: .int x :: st) σ X := by
  obtain ⟨p, l, e, R, s, m, args, below, meth, c, cl, sl, Qf⟩ := M
  obtain ⟨hx, hb, hml, hown, hts, hlk, hr, hR, hK, hE, hok, hcl⟩ := C
  intro r σ' hX H locs ls hP hS hl
  exact lv_imul hx hb hd (K r σ' hX H locs ls hP hS hl)
theorem go_iand (C : fh_Cx E M cc nL own rt rm) {x y : Int32} (hd : decode cc pc = .ok (.iand, 1)) (K : fh_Go E M nL vw (pc + 1) lv (.int (x &&& y) :: st) σ X) : fh_Go E M nL vw pc lv (.int y :: .int x :: st) σ X := by
  obtain ⟨p, l, e, R, s, m, args, below, meth, c, cl, sl, Qf⟩ := M
  obtain ⟨hx, hb, hml, hown, hts, hlk, hr, hR, hK, hE, hok, hcl⟩ := C
  intro r σ' hX H locs ls hP hS hl
  exact lv_iand hx hb hd (K r σ' hX H locs ls hP hS hl)
theorem go_ior (C : fh_Cx E M cc nL own rt rm) {x y : Int32} (hd : decode cc pc = .ok (.ior, 1)) (K : fh_Go E M nL vw (pc + 1) lv (.int (x ||| y) :: st) σ X) : fh_Go E M nL vw pc lv (.int y :: .int x :: st) σ X := by
  obtain ⟨p, l, e, R, s, m, args, below, meth, c, cl, sl, Qf⟩ := M
  obtain ⟨hx, hb, hml, hown, hts, hlk, hr, hR, hK, hE, hok, hcl⟩ := C
  intro r σ' hX H locs ls hP hS hl
  exact lv_ior hx hb hd (K r σ' hX H locs ls hP hS hl)
theorem go_ixor (C : fh_Cx E M cc nL own rt rm) {x y : Int32} (hd : decode cc pc = .ok (.ixor, 1)) (K : fh_Go E M nL vw (pc + 1) lv (.int (x ^^^ y) :: st) σ X) : fh_Go E M nL vw pc lv (.int y :: .int x :: st) σ X := by
  obtain ⟨p, l, e, R, s, m, args, below, meth, c, cl, sl, Qf⟩ := M
  obtain ⟨hx, hb, hml, hown, hts, hlk, hr, hR, hK, hE, hok, hcl⟩ := C
  intro r σ' hX H locs ls hP hS hl
  exact lv_ixor hx hb hd (K r σ' hX H locs ls hP hS hl)
theorem go_ishl (C : fh_Cx E M cc nL own rt rm) {x y : Int32} (hd : decode cc pc = .ok (.ishl, 1)) (K : fh_Go E M nL vw (pc + 1) lv (.int (x <<< (y &&& 31)) :: st) σ X) : fh_Go E M nL vw pc lv (.int y :: .int x :: st) σ X := by
  obtain ⟨p, l, e, R, s, m, args, below, meth, c, cl, sl, Qf⟩ := M
  obtain ⟨hx, hb, hml, hown, hts, hlk, hr, hR, hK, hE, hok, hcl⟩ := C
  intro r σ' hX H locs ls hP hS hl
  exact lv_ishl hx hb hd (K r σ' hX H locs ls hP hS hl)
theorem go_ishr (C : fh_Cx E M cc nL own rt rm) {x y : Int32} (hd : decode cc pc = .ok (.ishr, 1)) (K : fh_Go E M nL vw (pc + 1) lv (.int (x >>> (y &&& 31)) :: st) σ X) : fh_Go E M nL vw pc lv (.int y :: .int x :: st) σ X := by
  obtain ⟨p, l, e, R, s, m, args, below, meth, c, cl, sl, Qf⟩ := M
  obtain ⟨hx, hb, hml, hown, hts, hlk, hr, hR, hK, hE, hok, hcl⟩ := C
  intro r σ' hX H locs ls hP hS hl
  exact lv_ishr hx hb hd (K r σ' hX H locs ls hP hS hl)
theorem go_iushr (C : fh_Cx E M cc nL own rt rm) {x y : Int32} (hd : decode cc pc = .ok (.iushr, 1)) (K : fh_Go E M nL vw (pc + 1) lv (.int ((x.toUInt32 >>> (y.toUInt32 &&& Int32.toUInt32 31)).toInt32) :: st) σ X) : fh_Go E M nL vw pc lv (.int y :: .int x :: st) σ X := by
  obtain ⟨p, l, e, R, s, m, args, below, meth, c, cl, sl, Qf⟩ := M
  obtain ⟨hx, hb, hml, hown, hts, hlk, hr, hR, hK, hE, hok, hcl⟩ := C
  intro r σ' hX H locs ls hP hS hl
  exact lv_iushr hx hb hd rfl (K r σ' hX H locs ls hP hS hl)
theorem go_idiv (C : fh_Cx E M cc nL own rt rm) {x y : Int32} (hd : decode cc pc = .ok (.idiv, 1)) (hne : ¬ y = 0) (K : fh_Go E M nL vw (pc + 1) lv (.int (x / y) :: st) σ X) : fh_Go E M nL vw pc lv (.int y :: .int x :: st) σ X := by
  obtain ⟨p, l, e, R, s, m, args, below, meth, c, cl, sl, Qf⟩ := M
  obtain ⟨hx, hb, hml, hown, hts, hlk, hr, hR, hK, hE, hok, hcl⟩ := C
  intro r σ' hX H locs ls hP hS hl
  exact lv_idiv hx hb hd hne (K r σ' hX H locs ls hP hS hl)
theorem go_irem (C : fh_Cx E M cc nL own rt rm) {x y : Int32} (hd : decode cc pc = .ok (.irem, 1)) (hne : ¬ y = 0) (K : fh_Go E M nL vw (pc + 1) lv (.int (x - x / y * y) :: st) σ X) : fh_Go E M nL vw pc lv (.int y :: .int x :: st) σ X := by
  obtain ⟨p, l, e, R, s, m, args, below, meth, c, cl, sl, Qf⟩ := M
  obtain ⟨hx, hb, hml, hown, hts, hlk, hr, hR, hK, hE, hok, hcl⟩ := C
  intro r σ' hX H locs ls hP hS hl
  exact lv_irem hx hb hd hne (K r σ' hX H locs ls hP hS hl)
theorem go_ineg (C : fh_Cx E M cc nL own rt rm) {x : Int32} (hd : decode cc pc = .ok (.ineg, 1)) (K : fh_Go E M nL vw (pc + 1) lv (.int (-x) :: st) σ X) : fh_Go E M nL vw pc lv (.int x :: st) σ X := by
  obtain ⟨p, l, e, R, s, m, args, below, meth, c, cl, sl, Qf⟩ := M
  obtain ⟨hx, hb, hml, hown, hts, hlk, hr, hR, hK, hE, hok, hcl⟩ := C
  intro r σ' hX H locs ls hP hS hl
  exact lv_ineg hx hb hd (K r σ' hX H locs ls hP hS hl)
theorem go_i2b (C : fh_Cx E M cc nL own rt rm) {x : Int32} (hd : decode cc pc = .ok (.i2b, 1)) (K : fh_Go E M nL vw (pc + 1) lv (.int (x.toInt8.toInt32) :: st) σ X) : fh_Go E M nL vw pc lv (.int x :: st) σ X := by
  obtain ⟨p, l, e, R, s, m, args, below, meth, c, cl, sl, Qf⟩ := M
  obtain ⟨hx, hb, hml, hown, hts, hlk, hr, hR, hK, hE, hok, hcl⟩ := C
  intro r σ' hX H locs ls hP hS hl
  exact lv_i2b hx hb hd rfl (K r σ' hX H locs ls hP hS hl)
theorem go_i2s (C : fh_Cx E M cc nL own rt rm) {x : Int32} (hd : decode cc pc = .ok (.i2s, 1)) (K : fh_Go E M nL vw (pc + 1) lv (.int (x.toInt16.toInt32) :: st) σ X) : fh_Go E M nL vw pc lv (.int x :: st) σ X := by
  obtain ⟨p, l, e, R, s, m, args, below, meth, c, cl, sl, Qf⟩ := M
  obtain ⟨hx, hb, hml, hown, hts, hlk, hr, hR, hK, hE, hok, hcl⟩ := C
  intro r σ' hX H locs ls hP hS hl
  exact lv_i2s hx hb hd rfl (K r σ' hX H locs ls hP hS hl)
theorem go_i2c (C : fh_Cx E M cc nL own rt rm) {x : Int32} (hd : decode cc pc = .ok (.i2c, 1)) (K : fh_Go E M nL vw (pc + 1) lv (.int ((x.toUInt32 % 65536).toInt32) :: st) σ X) : fh_Go E M nL vw pc lv (.int x :: st) σ X := by
  obtain ⟨p, l, e, R, s, m, args, below, meth, c, cl, sl, Qf⟩ := M
  obtain ⟨hx, hb, hml, hown, hts, hlk, hr, hR, hK, hE, hok, hcl⟩ := C
  intro r σ' hX H locs ls hP hS hl
  exact lv_i2c hx hb hd rfl (K r σ' hX H locs ls hP hS hl)
theorem go_i2l (C : fh_Cx E M cc nL own rt rm) {x : Int32} (hd : decode cc pc = .ok (.i2l, 1)) (K : fh_Go E M nL vw (pc + 1) lv (.long (x.toInt64) :: st) σ X) : fh_Go E M nL vw pc lv (.int x :: st) σ X := by
  obtain ⟨p, l, e, R, s, m, args, below, meth, c, cl, sl, Qf⟩ := M
  obtain ⟨hx, hb, hml, hown, hts, hlk, hr, hR, hK, hE, hok, hcl⟩ := C
  intro r σ' hX H locs ls hP hS hl
  exact lv_i2l hx hb hd rfl (K r σ' hX H locs ls hP hS hl)
theorem go_ladd (C : fh_Cx E M cc nL own rt rm) {x y : Int64} (hd : decode cc pc = .ok (.ladd, 1)) (K : fh_Go E M nL vw (pc + 1) lv (.long (x + y) :: st) σ X) : fh_Go E M nL vw pc lv (.long y :: .long x :: st) σ X := by
  obtain ⟨p, l, e, R, s, m, args, below, meth, c, cl, sl, Qf⟩ := M
  obtain ⟨hx, hb, hml, hown, hts, hlk, hr, hR, hK, hE, hok, hcl⟩ := C
  intro r σ' hX H locs ls hP hS hl
  exact lv_ladd hx hb hd (K r σ' hX H locs ls hP hS hl)
theorem go_lmul (C : fh_Cx E M cc nL own rt rm) {x y : Int64} (hd : decode cc pc = .ok (.lmul, 1)) (K : fh_Go E M nL vw (pc + 1) lv (.long (x * y) :: st) σ X) : fh_Go E M nL vw pc lv (.long y :: .long x :: st) σ X := by
  obtain ⟨p, l, e, R, s, m, args, below, meth, c, cl, sl, Qf⟩ := M
  obtain ⟨hx, hb, hml, hown, hts, hlk, hr, hR, hK, hE, hok, hcl⟩ := C
  intro r σ' hX H locs ls hP hS hl
  exact lv_lmul hx hb hd (K r σ' hX H locs ls hP hS hl)
theorem go_lcmp (C : fh_Cx E M cc nL own rt rm) {x y : Int64} (hd : decode cc pc = .ok (.lcmp, 1)) (K : fh_Go E M nL vw (pc + 1) lv (.int (lg_cmp x y) :: st) σ X) : fh_Go E M nL vw pc lv (.long y :: .long x :: st) σ X := by
  obtain ⟨p, l, e, R, s, m, args, below, meth, c, cl, sl, Qf⟩ := M
  obtain ⟨hx, hb, hml, hown, hts, hlk, hr, hR, hK, hE, hok, hcl⟩ := C
  intro r σ' hX H locs ls hP hS hl
  exact W.lcmp hx hb hd (K r σ' hX H locs ls hP hS hl)
theorem go_iconst (C : fh_Cx E M cc nL own rt rm) {n : Int} (v : Int32) (hd : decode cc pc = .ok (.iconst n, 1)) (hv : Int32.ofInt n = v) (K : fh_Go E M nL vw (pc + 1) lv (.int v :: st) σ X) : fh_Go E M nL vw pc lv (st) σ X := by
  obtain ⟨p, l, e, R, s, m, args, below, meth, c, cl, sl, Qf⟩ := M
  obtain ⟨hx, hb, hml, hown, hts, hlk, hr, hR, hK, hE, hok, hcl⟩ := C
  intro r σ' hX H locs ls hP hS hl
  exact lv_iconst hx hb hd hv (K r σ' hX H locs ls hP hS hl)
theorem go_bipush (C : fh_Cx E M cc nL own rt rm) {n : Int} (v : Int32) (hd : decode cc pc = .ok (.bipush n, 2)) (hv : (Int8.ofInt n).toInt32 = v) (K : fh_Go E M nL vw (pc + 2) lv (.int v :: st) σ X) : fh_Go E M nL vw pc lv (st) σ X := by
  obtain ⟨p, l, e, R, s, m, args, below, meth, c, cl, sl, Qf⟩ := M
  obtain ⟨hx, hb, hml, hown, hts, hlk, hr, hR, hK, hE, hok, hcl⟩ := C
  intro r σ' hX H locs ls hP hS hl
  exact lv_bipush hx hb hd hv (K r σ' hX H locs ls hP hS hl)
theorem go_sipush (C : fh_Cx E M cc nL own rt rm) {n : Int} (v : Int32) (hd : decode cc pc = .ok (.sipush n, 3)) (hv : (Int16.ofInt n).toInt32 = v) (K : fh_Go E M nL vw (pc + 3) lv (.int v :: st) σ X) : fh_Go E M nL vw pc lv (st) σ X := by
  obtain ⟨p, l, e, R, s, m, args, below, meth, c, cl, sl, Qf⟩ := M
  obtain ⟨hx, hb, hml, hown, hts, hlk, hr, hR, hK, hE, hok, hcl⟩ := C
  intro r σ' hX H locs ls hP hS hl
  exact lv_sipush hx hb hd hv (K r σ' hX H locs ls hP hS hl)
theorem go_lconst (C : fh_Cx E M cc nL own rt rm) {n : Fin 2} (v : Int64) (hd : decode cc pc = .ok (.lconst n, 1)) (hv : Int64.ofNat (n : Nat) = v) (K : fh_Go E M nL vw (pc + 1) lv (.long v :: st) σ X) : fh_Go E M nL vw pc lv (st) σ X := by
  obtain ⟨p, l, e, R, s, m, args, below, meth, c, cl, sl, Qf⟩ := M
  obtain ⟨hx, hb, hml, hown, hts, hlk, hr, hR, hK, hE, hok, hcl⟩ := C
  intro r σ' hX H locs ls hP hS hl
  exact lv_lconst hx hb hd hv (K r σ' hX H locs ls hP hS hl)
theorem go_ldc (C : fh_Cx E M cc nL own rt rm) {idx : Nat} {v : Int32} (hc : Cond.constant own idx v ∈ fh_T) (hd : decode cc pc = .ok (.ldc idx, 2)) (K : fh_Go E M nL vw (pc + 2) lv (.int v :: st) σ X) : fh_Go E M nL vw pc lv (st) σ X := by
  obtain ⟨p, l, e, R, s, m, args, below, meth, c, cl, sl, Qf⟩ := M
  obtain ⟨hx, hb, hml, hown, hts, hlk, hr, hR, hK, hE, hok, hcl⟩ := C
  intro r σ' hX H locs ls hP hS hl
  exact lv_ldc hx hb hown (hts _ hc) hd (K r σ' hX H locs ls hP hS hl)
theorem go_ldcw (C : fh_Cx E M cc nL own rt rm) {idx : Nat} {v : Int32} (hc : Cond.constant own idx v ∈ fh_T) (hd : decode cc pc = .ok (.ldc_w idx, 3)) (K : fh_Go E M nL vw (pc + 3) lv (.int v :: st) σ X) : fh_Go E M nL vw pc lv (st) σ X := by
  obtain ⟨p, l, e, R, s, m, args, below, meth, c, cl, sl, Qf⟩ := M
  obtain ⟨hx, hb, hml, hown, hts, hlk, hr, hR, hK, hE, hok, hcl⟩ := C
  intro r σ' hX H locs ls hP hS hl
  exact lv_ldcw hx hb hown (hts _ hc) hd (K r σ' hX H locs ls hP hS hl)
theorem go_iload_n (C : fh_Cx E M cc nL own rt rm) {k : Fin 4} {x : Int32} (j : Nat) {i : Nat} (hj : lv[j]? = some (i, .int x)) (hk : (k : Nat) = i) (hd : decode cc pc = .ok (.iload_n k, 1)) (K : fh_Go E M nL vw (pc + 1) lv (.int x :: st) σ X) : fh_Go E M nL vw pc lv (st) σ X := by
  obtain ⟨p, l, e, R, s, m, args, below, meth, c, cl, sl, Qf⟩ := M
  obtain ⟨hx, hb, hml, hown, hts, hlk, hr, hR, hK, hE, hok, hcl⟩ := C
  intro r σ' hX H locs ls hP hS hl
  exact lv_iload_n hx hb hd hk (lv_at hl j hj) (K r σ' hX H locs ls hP hS hl)
theorem go_iload (C : fh_Cx E M cc nL own rt rm) {x : Int32} (j : Nat) {i : Nat} (hj : lv[j]? = some (i, .int x)) (hd : decode cc pc = .ok (.iload i, 2)) (K : fh_Go E M nL vw (pc + 2) lv (.int x :: st) σ X) : fh_Go E M nL vw pc lv (st) σ X := by
  obtain ⟨p, l, e, R, s, m, args, below, meth, c, cl, sl, Qf⟩ := M
  obtain ⟨hx, hb, hml, hown, hts, hlk, hr, hR, hK, hE, hok, hcl⟩ := C
  intro r σ' hX H locs ls hP hS hl
  exact lv_iload hx hb hd (lv_at hl j hj) (K r σ' hX H locs ls hP hS hl)
theorem go_istore_n (C : fh_Cx E M cc nL own rt rm) {k : Fin 4} {x : Int32} {i : Nat} (lv' : List (Nat × Value)) (hlv : (i, Value.int x) :: lv.filter (fun q => !(q.1 == i) && !(q.1 + 1 == i && q.2.category == 2)) = lv') (hk : (k : Nat) = i) (hi : i < nL) (hd : decode cc pc = .ok (.istore_n k, 1)) (K : fh_Go E M nL vw (pc + 1) lv' st σ X) : fh_Go E M nL vw pc lv (.int x :: st) σ X := by
  obtain ⟨p, l, e, R, s, m, args, below, meth, c, cl, sl, Qf⟩ := M
  obtain ⟨hx, hb, hml, hown, hts, hlk, hr, hR, hK, hE, hok, hcl⟩ := C
  intro r σ' hX H locs ls hP hS hl
  exact lv_istore_n hx hb hd hk hl hi hlv (fun ls' hl' => K r σ' hX H locs ls' hP hS hl')
theorem go_istore (C : fh_Cx E M cc nL own rt rm) {x : Int32} {i : Nat} (lv' : List (Nat × Value)) (hlv : (i, Value.int x) :: lv.filter (fun q => !(q.1 == i) && !(q.1 + 1 == i && q.2.category == 2)) = lv') (hi : i < nL) (hd : decode cc pc = .ok (.istore i, 2)) (K : fh_Go E M nL vw (pc + 2) lv' st σ X) : fh_Go E M nL vw pc lv (.int x :: st) σ X := by
  obtain ⟨p, l, e, R, s, m, args, below, meth, c, cl, sl, Qf⟩ := M
  obtain ⟨hx, hb, hml, hown, hts, hlk, hr, hR, hK, hE, hok, hcl⟩ := C
  intro r σ' hX H locs ls hP hS hl
  exact lv_istore hx hb hd hl hi hlv (fun ls' hl' => K r σ' hX H locs ls' hP hS hl')
theorem go_lload_n (C : fh_Cx E M cc nL own rt rm) {k : Fin 4} {x : Int64} (j : Nat) {i : Nat} (hj : lv[j]? = some (i, .long x)) (hk : (k : Nat) = i) (hd : decode cc pc = .ok (.lload_n k, 1)) (K : fh_Go E M nL vw (pc + 1) lv (.long x :: st) σ X) : fh_Go E M nL vw pc lv (st) σ X := by
  obtain ⟨p, l, e, R, s, m, args, below, meth, c, cl, sl, Qf⟩ := M
  obtain ⟨hx, hb, hml, hown, hts, hlk, hr, hR, hK, hE, hok, hcl⟩ := C
  intro r σ' hX H locs ls hP hS hl
  exact lv_lload_n hx hb hd hk (lv_at hl j hj) (K r σ' hX H locs ls hP hS hl)
theorem go_lload (C : fh_Cx E M cc nL own rt rm) {x : Int64} (j : Nat) {i : Nat} (hj : lv[j]? = some (i, .long x)) (hd : decode cc pc = .ok (.lload i, 2)) (K : fh_Go E M nL vw (pc + 2) lv (.long x :: st) σ X) : fh_Go E M nL vw pc lv (st) σ X := by
  obtain ⟨p, l, e, R, s, m, args, below, meth, c, cl, sl, Qf⟩ := M
  obtain ⟨hx, hb, hml, hown, hts, hlk, hr, hR, hK, hE, hok, hcl⟩ := C
  intro r σ' hX H locs ls hP hS hl
  exact lv_lload hx hb hd (lv_at hl j hj) (K r σ' hX H locs ls hP hS hl)
theorem go_lstore_n (C : fh_Cx E M cc nL own rt rm) {k : Fin 4} {x : Int64} {i : Nat} (lv' : List (Nat × Value)) (hlv : (i, Value.long x) :: lv.filter (fun q => !(q.1 == i) && (!(q.1 == i + 1) && !(q.1 + 1 == i && q.2.category == 2))) = lv') (hk : (k : Nat) = i) (hi : i + 1 < nL) (hd : decode cc pc = .ok (.lstore_n k, 1)) (K : fh_Go E M nL vw (pc + 1) lv' st σ X) : fh_Go E M nL vw pc lv (.long x :: st) σ X := by
  obtain ⟨p, l, e, R, s, m, args, below, meth, c, cl, sl, Qf⟩ := M
  obtain ⟨hx, hb, hml, hown, hts, hlk, hr, hR, hK, hE, hok, hcl⟩ := C
  intro r σ' hX H locs ls hP hS hl
  exact lv_lstore_n hx hb hd hk hl hi hlv (fun ls' hl' => K r σ' hX H locs ls' hP hS hl')
theorem go_lstore (C : fh_Cx E M cc nL own rt rm) {x : Int64} {i : Nat} (lv' : List (Nat × Value)) (hlv : (i, Value.long x) :: lv.filter (fun q => !(q.1 == i) && (!(q.1 == i + 1) && !(q.1 + 1 == i && q.2.category == 2))) = lv') (hi : i + 1 < nL) (hd : decode cc pc = .ok (.lstore i, 2)) (K : fh_Go E M nL vw (pc + 2) lv' st σ X) : fh_Go E M nL vw pc lv (.long x :: st) σ X := by
  obtain ⟨p, l, e, R, s, m, args, below, meth, c, cl, sl, Qf⟩ := M
  obtain ⟨hx, hb, hml, hown, hts, hlk, hr, hR, hK, hE, hok, hcl⟩ := C
  intro r σ' hX H locs ls hP hS hl
  exact lv_lstore hx hb hd hl hi hlv (fun ls' hl' => K r σ' hX H locs ls' hP hS hl')
theorem go_aload_n (C : fh_Cx E M cc nL own rt rm) {k : Fin 4} {x : Nat} (j : Nat) {i : Nat} (hj : lv[j]? = some (i, .ref x)) (hk : (k : Nat) = i) (hd : decode cc pc = .ok (.aload_n k, 1)) (K : fh_Go E M nL vw (pc + 1) lv (.ref x :: st) σ X) : fh_Go E M nL vw pc lv (st) σ X := by
  obtain ⟨p, l, e, R, s, m, args, below, meth, c, cl, sl, Qf⟩ := M
  obtain ⟨hx, hb, hml, hown, hts, hlk, hr, hR, hK, hE, hok, hcl⟩ := C
  intro r σ' hX H locs ls hP hS hl
  exact lv_aload_n hx hb hd hk (lv_at hl j hj) (K r σ' hX H locs ls hP hS hl)
theorem go_aload (C : fh_Cx E M cc nL own rt rm) {x : Nat} (j : Nat) {i : Nat} (hj : lv[j]? = some (i, .ref x)) (hd : decode cc pc = .ok (.aload i, 2)) (K : fh_Go E M nL vw (pc + 2) lv (.ref x :: st) σ X) : fh_Go E M nL vw pc lv (st) σ X := by
  obtain ⟨p, l, e, R, s, m, args, below, meth, c, cl, sl, Qf⟩ := M
  obtain ⟨hx, hb, hml, hown, hts, hlk, hr, hR, hK, hE, hok, hcl⟩ := C
  intro r σ' hX H locs ls hP hS hl
  exact lv_aload hx hb hd (lv_at hl j hj) (K r σ' hX H locs ls hP hS hl)
theorem go_astore_n (C : fh_Cx E M cc nL own rt rm) {k : Fin 4} {x : Nat} {i : Nat} (lv' : List (Nat × Value)) (hlv : (i, Value.ref x) :: lv.filter (fun q => !(q.1 == i) && !(q.1 + 1 == i && q.2.category == 2)) = lv') (hk : (k : Nat) = i) (hi : i < nL) (hd : decode cc pc = .ok (.astore_n k, 1)) (K : fh_Go E M nL vw (pc + 1) lv' st σ X) : fh_Go E M nL vw pc lv (.ref x :: st) σ X := by
  obtain ⟨p, l, e, R, s, m, args, below, meth, c, cl, sl, Qf⟩ := M
  obtain ⟨hx, hb, hml, hown, hts, hlk, hr, hR, hK, hE, hok, hcl⟩ := C
  intro r σ' hX H locs ls hP hS hl
  exact lv_astore_n hx hb hd hk hl hi hlv (fun ls' hl' => K r σ' hX H locs ls' hP hS hl')
theorem go_astore (C : fh_Cx E M cc nL own rt rm) {x : Nat} {i : Nat} (lv' : List (Nat × Value)) (hlv : (i, Value.ref x) :: lv.filter (fun q => !(q.1 == i) && !(q.1 + 1 == i && q.2.category == 2)) = lv') (hi : i < nL) (hd : decode cc pc = .ok (.astore i, 2)) (K : fh_Go E M nL vw (pc + 2) lv' st σ X) : fh_Go E M nL vw pc lv (.ref x :: st) σ X := by
  obtain ⟨p, l, e, R, s, m, args, below, meth, c, cl, sl, Qf⟩ := M
  obtain ⟨hx, hb, hml, hown, hts, hlk, hr, hR, hK, hE, hok, hcl⟩ := C
  intro r σ' hX H locs ls hP hS hl
  exact lv_astore hx hb hd hl hi hlv (fun ls' hl' => K r σ' hX H locs ls' hP hS hl')
theorem go_iinc (C : fh_Cx E M cc nL own rt rm) {n : Int} {x : Int32} (v : Int32) (j : Nat) {i : Nat} (lv' : List (Nat × Value)) (hj : lv[j]? = some (i, .int x)) (hv : x + Int32.ofInt n = v) (hlv : (i, Value.int v) :: lv.filter (fun q => !(q.1 == i) && !(q.1 + 1 == i && q.2.category == 2)) = lv') (hi : i < nL) (hd : decode cc pc = .ok (.iinc i n, 3)) (K : fh_Go E M nL vw (pc + 3) lv' st σ X) : fh_Go E M nL vw pc lv st σ X := by
  obtain ⟨p, l, e, R, s, m, args, below, meth, c, cl, sl, Qf⟩ := M
  obtain ⟨hx, hb, hml, hown, hts, hlk, hr, hR, hK, hE, hok, hcl⟩ := C
  intro r σ' hX H locs ls hP hS hl
  exact lv_iinc hx hb hd hl hj hv hi hlv (fun ls' hl' => K r σ' hX H locs ls' hP hS hl')
theorem go_astore_nN (C : fh_Cx E M cc nL own rt rm) {k : Fin 4} {i : Nat} (lv' : List (Nat × Value)) (hlv : (i, Value.null) :: lv.filter (fun q => !(q.1 == i) && !(q.1 + 1 == i && q.2.category == 2)) = lv') (hk : (k : Nat) = i) (hi : i < nL) (hd : decode cc pc = .ok (.astore_n k, 1)) (K : fh_Go E M nL vw (pc + 1) lv' st σ X) : fh_Go E M nL vw pc lv (.null :: st) σ X := by
  obtain ⟨p, l, e, R, s, m, args, below, meth, c, cl, sl, Qf⟩ := M
  obtain ⟨hx, hb, hml, hown, hts, hlk, hr, hR, hK, hE, hok, hcl⟩ := C
  intro r σ' hX H locs ls hP hS hl
  exact lv_astore_nN hx hb hd hk hl hi hlv (fun ls' hl' => K r σ' hX H locs ls' hP hS hl')
theorem go_astoreN (C : fh_Cx E M cc nL own rt rm) {i : Nat} (lv' : List (Nat × Value)) (hlv : (i, Value.null) :: lv.filter (fun q => !(q.1 == i) && !(q.1 + 1 == i && q.2.category == 2)) = lv') (hi : i < nL) (hd : decode cc pc = .ok (.astore i, 2)) (K : fh_Go E M nL vw (pc + 2) lv' st σ X) : fh_Go E M nL vw pc lv (.null :: st) σ X := by
  obtain ⟨p, l, e, R, s, m, args, below, meth, c, cl, sl, Qf⟩ := M
  obtain ⟨hx, hb, hml, hown, hts, hlk, hr, hR, hK, hE, hok, hcl⟩ := C
  intro r σ' hX H locs ls hP hS hl
  exact lv_astoreN hx hb hd hl hi hlv (fun ls' hl' => K r σ' hX H locs ls' hP hS hl')
theorem go_aload_nN (C : fh_Cx E M cc nL own rt rm) {k : Fin 4} (j : Nat) {i : Nat} (hj : lv[j]? = some (i, .null)) (hk : (k : Nat) = i) (hd : decode cc pc = .ok (.aload_n k, 1)) (K : fh_Go E M nL vw (pc + 1) lv (.null :: st) σ X) : fh_Go E M nL vw pc lv (st) σ X := by
  obtain ⟨p, l, e, R, s, m, args, below, meth, c, cl, sl, Qf⟩ := M
  obtain ⟨hx, hb, hml, hown, hts, hlk, hr, hR, hK, hE, hok, hcl⟩ := C
  intro r σ' hX H locs ls hP hS hl
  exact lv_aload_nN hx hb hd hk (lv_at hl j hj) (K r σ' hX H locs ls hP hS hl)
theorem go_aloadN (C : fh_Cx E M cc nL own rt rm) (j : Nat) {i : Nat} (hj : lv[j]? = some (i, .null)) (hd : decode cc pc = .ok (.aload i, 2)) (K : fh_Go E M nL vw (pc + 2) lv (.null :: st) σ X) : fh_Go E M nL vw pc lv (st) σ X := by
  obtain ⟨p, l, e, R, s, m, args, below, meth, c, cl, sl, Qf⟩ := M
  obtain ⟨hx, hb, hml, hown, hts, hlk, hr, hR, hK, hE, hok, hcl⟩ := C
  intro r σ' hX H locs ls hP hS hl
  exact lv_aloadN hx hb hd (lv_at hl j hj) (K r σ' hX H locs ls hP hS hl)
theorem go_null (C : fh_Cx E M cc nL own rt rm) (hd : decode cc pc = .ok (.aconst_null, 1)) (K : fh_Go E M nL vw (pc + 1) lv (.null :: st) σ X) : fh_Go E M nL vw pc lv (st) σ X := by
  obtain ⟨p, l, e, R, s, m, args, below, meth, c, cl, sl, Qf⟩ := M
  obtain ⟨hx, hb, hml, hown, hts, hlk, hr, hR, hK, hE, hok, hcl⟩ := C
  intro r σ' hX H locs ls hP hS hl
  exact lv_null hx hb hd (K r σ' hX H locs ls hP hS hl)
theorem go_dup (C : fh_Cx E M cc nL own rt rm) {v : Value} (hv : v.category = 1) (hd : decode cc pc = .ok (.dup, 1)) (K : fh_Go E M nL vw (pc + 1) lv (v :: v :: st) σ X) : fh_Go E M nL vw pc lv (v :: st) σ X := by
  obtain ⟨p, l, e, R, s, m, args, below, meth, c, cl, sl, Qf⟩ := M
  obtain ⟨hx, hb, hml, hown, hts, hlk, hr, hR, hK, hE, hok, hcl⟩ := C
  intro r σ' hX H locs ls hP hS hl
  exact lv_dup hx hb hd hv (K r σ' hX H locs ls hP hS hl)
theorem go_dup2 (C : fh_Cx E M cc nL own rt rm) {v w : Value} (hv : v.category = 1) (hw : w.category = 1) (hd : decode cc pc = .ok (.dup2, 1)) (K : fh_Go E M nL vw (pc + 1) lv (v :: w :: v :: w :: st) σ X) : fh_Go E M nL vw pc lv (v :: w :: st) σ X := by
  obtain ⟨p, l, e, R, s, m, args, below, meth, c, cl, sl, Qf⟩ := M
  obtain ⟨hx, hb, hml, hown, hts, hlk, hr, hR, hK, hE, hok, hcl⟩ := C
  intro r σ' hX H locs ls hP hS hl
  exact lv_dup2_11 hx hb hd hv hw (K r σ' hX H locs ls hP hS hl)
theorem go_pop (C : fh_Cx E M cc nL own rt rm) {v : Value} (hv : v.category = 1) (hd : decode cc pc = .ok (.pop, 1)) (K : fh_Go E M nL vw (pc + 1) lv (st) σ X) : fh_Go E M nL vw pc lv (v :: st) σ X := by
  obtain ⟨p, l, e, R, s, m, args, below, meth, c, cl, sl, Qf⟩ := M
  obtain ⟨hx, hb, hml, hown, hts, hlk, hr, hR, hK, hE, hok, hcl⟩ := C
  intro r σ' hX H locs ls hP hS hl
  exact lv_pop hx hb hd hv (K r σ' hX H locs ls hP hS hl)
theorem go_icmp_eq {X2 : Option (α × fh_S)} (C : fh_Cx E M cc nL own rt rm) {x y : Int32} {off : Int} {tgt : Nat} (hd : decode cc pc = .ok (.if_icmp .eq off, 3)) (ht : (pc : Int) + off = (tgt : Int)) (K1 : (x = y) → fh_Go E M nL vw tgt lv st σ X) (K2 : ¬ (x = y) → fh_Go E M nL vw (pc + 3) lv st σ X2) : fh_Go E M nL vw pc lv (.int y :: .int x :: st) σ (if x = y then X else X2) := by
  obtain ⟨p, l, e, R, s, m, args, below, meth, c, cl, sl, Qf⟩ := M
  obtain ⟨hx, hb, hml, hown, hts, hlk, hr, hR, hK, hE, hok, hcl⟩ := C
  intro r σ' hX H locs ls hP hS hl
  by_cases hc : x = y
  · rw [if_pos hc] at hX
    exact lv_icmp_eq hx hb hd ht (fun h => K1 h r σ' hX H locs ls hP hS hl) (fun h => absurd hc h)
  · rw [if_neg hc] at hX
    exact lv_icmp_eq hx hb hd ht (fun h => absurd h hc) (fun h => K2 h r σ' hX H locs ls hP hS hl)
theorem go_icmp_lt {X2 : Option (α × fh_S)} (C : fh_Cx E M cc nL own rt rm) {x y : Int32} {off : Int} {tgt : Nat} (hd : decode cc pc = .ok (.if_icmp .lt off, 3)) (ht : (pc : Int) + off = (tgt : Int)) (K1 : (x < y) → fh_Go E M nL vw tgt lv st σ X) (K2 : ¬ (x < y) → fh_Go E M nL vw (pc + 3) lv st σ X2) : fh_Go E M nL vw pc lv (.int y :: .int x :: st) σ (if x < y then X else X2) := by
  obtain ⟨p, l, e, R, s, m, args, below, meth, c, cl, sl, Qf⟩ := M
  obtain ⟨hx, hb, hml, hown, hts, hlk, hr, hR, hK, hE, hok, hcl⟩ := C
  intro r σ' hX H locs ls hP hS hl
  by_cases hc : x < y
  · rw [if_pos hc] at hX
    exact lv_icmp_lt hx hb hd ht (fun h => K1 h r σ' hX H locs ls hP hS hl) (fun h => absurd hc h)
  · rw [if_neg hc] at hX
    exact lv_icmp_lt hx hb hd ht (fun h => absurd h hc) (fun h => K2 h r σ' hX H locs ls hP hS hl)
theorem go_icmp_ge {X2 : Option (α × fh_S)} (C : fh_Cx E M cc nL own rt rm) {x y : Int32} {off : Int} {tgt : Nat} (hd : decode cc pc = .ok (.if_icmp .ge off, 3)) (ht : (pc : Int) + off = (tgt : Int)) (K1 : (y ≤ x) → fh_Go E M nL vw tgt lv st σ X) (K2 : ¬ (y ≤ x) → fh_Go E M nL vw (pc + 3) lv st σ X2) : fh_Go E M nL vw pc lv (.int y :: .int x :: st) σ (if y ≤ x then X else X2) := by
  obtain ⟨p, l, e, R, s, m, args, below, meth, c, cl, sl, Qf⟩ := M
  obtain ⟨hx, hb, hml, hown, hts, hlk, hr, hR, hK, hE, hok, hcl⟩ := C
  intro r σ' hX H locs ls hP hS hl
  by_cases hc : y ≤ x
  · rw [if_pos hc] at hX
    exact lv_icmp_ge hx hb hd ht (fun h => K1 h r σ' hX H locs ls hP hS hl) (fun h => absurd hc h)
  · rw [if_neg hc] at hX
    exact lv_icmp_ge hx hb hd ht (fun h => absurd h hc) (fun h => K2 h r σ' hX H locs ls hP hS hl)
theorem go_icmp_gt {X2 : Option (α × fh_S)} (C : fh_Cx E M cc nL own rt rm) {x y : Int32} {off : Int} {tgt : Nat} (hd : decode cc pc = .ok (.if_icmp .gt off, 3)) (ht : (pc : Int) + off = (tgt : Int)) (K1 : (y < x) → fh_Go E M nL vw tgt lv st σ X) (K2 : ¬ (y < x) → fh_Go E M nL vw (pc + 3) lv st σ X2) : fh_Go E M nL vw pc lv (.int y :: .int x :: st) σ (if y < x then X else X2) := by
  obtain ⟨p, l, e, R, s, m, args, below, meth, c, cl, sl, Qf⟩ := M
  obtain ⟨hx, hb, hml, hown, hts, hlk, hr, hR, hK, hE, hok, hcl⟩ := C
  intro r σ' hX H locs ls hP hS hl
  by_cases hc : y < x
  · rw [if_pos hc] at hX
    exact lv_icmp_gt hx hb hd ht (fun h => K1 h r σ' hX H locs ls hP hS hl) (fun h => absurd hc h)
  · rw [if_neg hc] at hX
    exact lv_icmp_gt hx hb hd ht (fun h => absurd h hc) (fun h => K2 h r σ' hX H locs ls hP hS hl)
theorem go_icmp_le {X2 : Option (α × fh_S)} (C : fh_Cx E M cc nL own rt rm) {x y : Int32} {off : Int} {tgt : Nat} (hd : decode cc pc = .ok (.if_icmp .le off, 3)) (ht : (pc : Int) + off = (tgt : Int)) (K1 : (x ≤ y) → fh_Go E M nL vw tgt lv st σ X) (K2 : ¬ (x ≤ y) → fh_Go E M nL vw (pc + 3) lv st σ X2) : fh_Go E M nL vw pc lv (.int y :: .int x :: st) σ (if x ≤ y then X else X2) := by
  obtain ⟨p, l, e, R, s, m, args, below, meth, c, cl, sl, Qf⟩ := M
  obtain ⟨hx, hb, hml, hown, hts, hlk, hr, hR, hK, hE, hok, hcl⟩ := C
  intro r σ' hX H locs ls hP hS hl
  by_cases hc : x ≤ y
  · rw [if_pos hc] at hX
    exact lv_icmp_le hx hb hd ht (fun h => K1 h r σ' hX H locs ls hP hS hl) (fun h => absurd hc h)
  · rw [if_neg hc] at hX
    exact lv_icmp_le hx hb hd ht (fun h => absurd h hc) (fun h => K2 h r σ' hX H locs ls hP hS hl)
theorem go_if_eq {X2 : Option (α × fh_S)} (C : fh_Cx E M cc nL own rt rm) {x : Int32} {off : Int} {tgt : Nat} (hd : decode cc pc = .ok (.ifCond .eq off, 3)) (ht : (pc : Int) + off = (tgt : Int)) (K1 : (x = 0) → fh_Go E M nL vw tgt lv st σ X) (K2 : ¬ (x = 0) → fh_Go E M nL vw (pc + 3) lv st σ X2) : fh_Go E M nL vw pc lv (.int x :: st) σ (if x = 0 then X else X2) := by
  obtain ⟨p, l, e, R, s, m, args, below, meth, c, cl, sl, Qf⟩ := M
  obtain ⟨hx, hb, hml, hown, hts, hlk, hr, hR, hK, hE, hok, hcl⟩ := C
  intro r σ' hX H locs ls hP hS hl
  by_cases hc : x = 0
  · rw [if_pos hc] at hX
    exact lv_if_eq hx hb hd ht (fun h => K1 h r σ' hX H locs ls hP hS hl) (fun h => absurd hc h)
  · rw [if_neg hc] at hX
    exact lv_if_eq hx hb hd ht (fun h => absurd h hc) (fun h => K2 h r σ' hX H locs ls hP hS hl)
theorem go_if_lt {X2 : Option (α × fh_S)} (C : fh_Cx E M cc nL own rt rm) {x : Int32} {off : Int} {tgt : Nat} (hd : decode cc pc = .ok (.ifCond .lt off, 3)) (ht : (pc : Int) + off = (tgt : Int)) (K1 : (x < 0) → fh_Go E M nL vw tgt lv st σ X) (K2 : ¬ (x < 0) → fh_Go E M nL vw (pc + 3) lv st σ X2) : fh_Go E M nL vw pc lv (.int x :: st) σ (if x < 0 then X else X2) := by
  obtain ⟨p, l, e, R, s, m, args, below, meth, c, cl, sl, Qf⟩ := M
  obtain ⟨hx, hb, hml, hown, hts, hlk, hr, hR, hK, hE, hok, hcl⟩ := C
  intro r σ' hX H locs ls hP hS hl
  by_cases hc : x < 0
  · rw [if_pos hc] at hX
    exact lv_if_lt hx hb hd ht (fun h => K1 h r σ' hX H locs ls hP hS hl) (fun h => absurd hc h)
  · rw [if_neg hc] at hX
    exact lv_if_lt hx hb hd ht (fun h => absurd h hc) (fun h => K2 h r σ' hX H locs ls hP hS hl)
theorem go_if_ge {X2 : Option (α × fh_S)} (C : fh_Cx E M cc nL own rt rm) {x : Int32} {off : Int} {tgt : Nat} (hd : decode cc pc = .ok (.ifCond .ge off, 3)) (ht : (pc : Int) + off = (tgt : Int)) (K1 : (0 ≤ x) → fh_Go E M nL vw tgt lv st σ X) (K2 : ¬ (0 ≤ x) → fh_Go E M nL vw (pc + 3) lv st σ X2) : fh_Go E M nL vw pc lv (.int x :: st) σ (if 0 ≤ x then X else X2) := by
  obtain ⟨p, l, e, R, s, m, args, below, meth, c, cl, sl, Qf⟩ := M
  obtain ⟨hx, hb, hml, hown, hts, hlk, hr, hR, hK, hE, hok, hcl⟩ := C
  intro r σ' hX H locs ls hP hS hl
  by_cases hc : 0 ≤ x
  · rw [if_pos hc] at hX
    exact lv_if_ge hx hb hd ht (fun h => K1 h r σ' hX H locs ls hP hS hl) (fun h => absurd hc h)
  · rw [if_neg hc] at hX
    exact lv_if_ge hx hb hd ht (fun h => absurd h hc) (fun h => K2 h r σ' hX H locs ls hP hS hl)
theorem go_if_gt {X2 : Option (α × fh_S)} (C : fh_Cx E M cc nL own rt rm) {x : Int32} {off : Int} {tgt : Nat} (hd : decode cc pc = .ok (.ifCond .gt off, 3)) (ht : (pc : Int) + off = (tgt : Int)) (K1 : (0 < x) → fh_Go E M nL vw tgt lv st σ X) (K2 : ¬ (0 < x) → fh_Go E M nL vw (pc + 3) lv st σ X2) : fh_Go E M nL vw pc lv (.int x :: st) σ (if 0 < x then X else X2) := by
  obtain ⟨p, l, e, R, s, m, args, below, meth, c, cl, sl, Qf⟩ := M
  obtain ⟨hx, hb, hml, hown, hts, hlk, hr, hR, hK, hE, hok, hcl⟩ := C
  intro r σ' hX H locs ls hP hS hl
  by_cases hc : 0 < x
  · rw [if_pos hc] at hX
    exact lv_if_gt hx hb hd ht (fun h => K1 h r σ' hX H locs ls hP hS hl) (fun h => absurd hc h)
  · rw [if_neg hc] at hX
    exact lv_if_gt hx hb hd ht (fun h => absurd h hc) (fun h => K2 h r σ' hX H locs ls hP hS hl)
theorem go_if_le {X2 : Option (α × fh_S)} (C : fh_Cx E M cc nL own rt rm) {x : Int32} {off : Int} {tgt : Nat} (hd : decode cc pc = .ok (.ifCond .le off, 3)) (ht : (pc : Int) + off = (tgt : Int)) (K1 : (x ≤ 0) → fh_Go E M nL vw tgt lv st σ X) (K2 : ¬ (x ≤ 0) → fh_Go E M nL vw (pc + 3) lv st σ X2) : fh_Go E M nL vw pc lv (.int x :: st) σ (if x ≤ 0 then X else X2) := by
  obtain ⟨p, l, e, R, s, m, args, below, meth, c, cl, sl, Qf⟩ := M
  obtain ⟨hx, hb, hml, hown, hts, hlk, hr, hR, hK, hE, hok, hcl⟩ := C
  intro r σ' hX H locs ls hP hS hl
  by_cases hc : x ≤ 0
  · rw [if_pos hc] at hX
    exact lv_if_le hx hb hd ht (fun h => K1 h r σ' hX H locs ls hP hS hl) (fun h => absurd hc h)
  · rw [if_neg hc] at hX
    exact lv_if_le hx hb hd ht (fun h => absurd h hc) (fun h => K2 h r σ' hX H locs ls hP hS hl)
theorem go_icmp_ne {X2 : Option (α × fh_S)} (C : fh_Cx E M cc nL own rt rm) {x y : Int32} {off : Int} {tgt : Nat} (hd : decode cc pc = .ok (.if_icmp .ne off, 3)) (ht : (pc : Int) + off = (tgt : Int)) (K1 : ¬ (x = y) → fh_Go E M nL vw tgt lv st σ X) (K2 : (x = y) → fh_Go E M nL vw (pc + 3) lv st σ X2) : fh_Go E M nL vw pc lv (.int y :: .int x :: st) σ (if x = y then X2 else X) := by
  obtain ⟨p, l, e, R, s, m, args, below, meth, c, cl, sl, Qf⟩ := M
  obtain ⟨hx, hb, hml, hown, hts, hlk, hr, hR, hK, hE, hok, hcl⟩ := C
  intro r σ' hX H locs ls hP hS hl
  by_cases hc : x = y
  · rw [if_pos hc] at hX
    exact lv_icmp_ne hx hb hd ht (fun h => absurd hc h) (fun h => K2 h r σ' hX H locs ls hP hS hl)
  · rw [if_neg hc] at hX
    exact lv_icmp_ne hx hb hd ht (fun h => K1 h r σ' hX H locs ls hP hS hl) (fun h => absurd h hc)
theorem go_if_ne {X2 : Option (α × fh_S)} (C : fh_Cx E M cc nL own rt rm) {x : Int32} {off : Int} {tgt : Nat} (hd : decode cc pc = .ok (.ifCond .ne off, 3)) (ht : (pc : Int) + off = (tgt : Int)) (K1 : ¬ (x = 0) → fh_Go E M nL vw tgt lv st σ X) (K2 : (x = 0) → fh_Go E M nL vw (pc + 3) lv st σ X2) : fh_Go E M nL vw pc lv (.int x :: st) σ (if x = 0 then X2 else X) := by
  obtain ⟨p, l, e, R, s, m, args, below, meth, c, cl, sl, Qf⟩ := M
  obtain ⟨hx, hb, hml, hown, hts, hlk, hr, hR, hK, hE, hok, hcl⟩ := C
  intro r σ' hX H locs ls hP hS hl
  by_cases hc : x = 0
  · rw [if_pos hc] at hX
    exact lv_if_ne hx hb hd ht (fun h => absurd hc h) (fun h => K2 h r σ' hX H locs ls hP hS hl)
  · rw [if_neg hc] at hX
    exact lv_if_ne hx hb hd ht (fun h => K1 h r σ' hX H locs ls hP hS hl) (fun h => absurd h hc)
theorem go_goto (C : fh_Cx E M cc nL own rt rm) {off : Int} (tgt : Nat) (hd : decode cc pc = .ok (.goto off, 3)) (ht : (pc : Int) + off = (tgt : Int)) (K : fh_Go E M nL vw tgt lv st σ X) : fh_Go E M nL vw pc lv st σ X := by
  obtain ⟨p, l, e, R, s, m, args, below, meth, c, cl, sl, Qf⟩ := M
  obtain ⟨hx, hb, hml, hown, hts, hlk, hr, hR, hK, hE, hok, hcl⟩ := C
  intro r σ' hX H locs ls hP hS hl
  exact lv_goto hx hb hd ht (K r σ' hX H locs ls hP hS hl)
theorem go_ifnull (C : fh_Cx E M cc nL own rt rm) {x : Nat} {off : Int} (hd : decode cc pc = .ok (.ifnull off, 3)) (K : fh_Go E M nL vw (pc + 3) lv st σ X) : fh_Go E M nL vw pc lv (.ref x :: st) σ X := by
  obtain ⟨p, l, e, R, s, m, args, below, meth, c, cl, sl, Qf⟩ := M
  obtain ⟨hx, hb, hml, hown, hts, hlk, hr, hR, hK, hE, hok, hcl⟩ := C
  intro r σ' hX H locs ls hP hS hl
  exact lv_ifnull hx hb hd (K r σ' hX H locs ls hP hS hl)
theorem go_ifnullN (C : fh_Cx E M cc nL own rt rm) {off : Int} (tgt : Nat) (hd : decode cc pc = .ok (.ifnull off, 3)) (ht : (pc : Int) + off = (tgt : Int)) (K : fh_Go E M nL vw tgt lv st σ X) : fh_Go E M nL vw pc lv (.null :: st) σ X := by
  obtain ⟨p, l, e, R, s, m, args, below, meth, c, cl, sl, Qf⟩ := M
  obtain ⟨hx, hb, hml, hown, hts, hlk, hr, hR, hK, hE, hok, hcl⟩ := C
  intro r σ' hX H locs ls hP hS hl
  exact lv_ifnullN hx hb hd ht (K r σ' hX H locs ls hP hS hl)
theorem go_ifnonnull (C : fh_Cx E M cc nL own rt rm) {x : Nat} {off : Int} (tgt : Nat) (hd : decode cc pc = .ok (.ifnonnull off, 3)) (ht : (pc : Int) + off = (tgt : Int)) (K : fh_Go E M nL vw tgt lv st σ X) : fh_Go E M nL vw pc lv (.ref x :: st) σ X := by
  obtain ⟨p, l, e, R, s, m, args, below, meth, c, cl, sl, Qf⟩ := M
  obtain ⟨hx, hb, hml, hown, hts, hlk, hr, hR, hK, hE, hok, hcl⟩ := C
  intro r σ' hX H locs ls hP hS hl
  exact lv_ifnonnull hx hb hd ht (K r σ' hX H locs ls hP hS hl)
theorem go_ifnonnullN (C : fh_Cx E M cc nL own rt rm) {off : Int} (hd : decode cc pc = .ok (.ifnonnull off, 3)) (K : fh_Go E M nL vw (pc + 3) lv st σ X) : fh_Go E M nL vw pc lv (.null :: st) σ X := by
  obtain ⟨p, l, e, R, s, m, args, below, meth, c, cl, sl, Qf⟩ := M
  obtain ⟨hx, hb, hml, hown, hts, hlk, hr, hR, hK, hE, hok, hcl⟩ := C
  intro r σ' hX H locs ls hP hS hl
  exact lv_ifnonnullN hx hb hd (K r σ' hX H locs ls hP hS hl)
theorem go_sw {X2 : Option (α × fh_S)} (C : fh_Cx E M cc nL own rt rm) {dflt lo hi off : Int} {offs : Array Int} {len : Nat} {x : Int32} (v : Int32) (tgt : Nat) (hd : decode cc pc = .ok (.tableswitch dflt lo hi offs, len)) (h1 : ¬ v.toInt < lo) (h2 : ¬ hi < v.toInt) (ho : offs[(v.toInt - lo).toNat]? = some off) (ht : (pc : Int) + off = (tgt : Int)) (K1 : fh_Go E M nL vw tgt lv st σ X) (K2 : ¬ x = v → fh_Go E M nL vw pc lv (.int x :: st) σ X2) : fh_Go E M nL vw pc lv (.int x :: st) σ (if x = v then X else X2) := by
  obtain ⟨p, l, e, R, s, m, args, below, meth, c, cl, sl, Qf⟩ := M
  obtain ⟨hx, hb, hml, hown, hts, hlk, hr, hR, hK, hE, hok, hcl⟩ := C
  intro r σ' hX H locs ls hP hS hl
  by_cases hc : x = v
  · rw [if_pos hc] at hX
    subst hc
    exact lv_tableIn hx hb hd h1 h2 ho ht (K1 r σ' hX H locs ls hP hS hl)
  · rw [if_neg hc] at hX
    exact K2 hc r σ' hX H locs ls hP hS hl
theorem go_swd (C : fh_Cx E M cc nL own rt rm) {dflt lo hi : Int} {offs : Array Int} {len : Nat} {x : Int32} (tgt : Nat) (hd : decode cc pc = .ok (.tableswitch dflt lo hi offs, len)) (h : x.toInt < lo ∨ hi < x.toInt) (ht : (pc : Int) + dflt = (tgt : Int)) (K : fh_Go E M nL vw tgt lv st σ X) : fh_Go E M nL vw pc lv (.int x :: st) σ X := by
  obtain ⟨p, l, e, R, s, m, args, below, meth, c, cl, sl, Qf⟩ := M
  obtain ⟨hx, hb, hml, hown, hts, hlk, hr, hR, hK, hE, hok, hcl⟩ := C
  intro r σ' hX H locs ls hP hS hl
  exact lv_tableOut hx hb hd h ht (K r σ' hX H locs ls hP hS hl)
theorem go_lk {X2 : Option (α × fh_S)} (C : fh_Cx E M cc nL own rt rm) {dflt off : Int} {ps : Array (Int × Int)} {len : Nat} {x : Int32} (v : Int32) (tgt : Nat) (hd : decode cc pc = .ok (.lookupswitch dflt ps, len)) (hp : (ps.toList.zip (ps.toList.drop 1)).all (fun (a, next) => a.1 < next.1) = true) (ho : Op.lookupswitch.offset ps.toList dflt v.toInt = off) (ht : (pc : Int) + off = (tgt : Int)) (K1 : fh_Go E M nL vw tgt lv st σ X) (K2 : ¬ x = v → fh_Go E M nL vw pc lv (.int x :: st) σ X2) : fh_Go E M nL vw pc lv (.int x :: st) σ (if x = v then X else X2) := by
  obtain ⟨p, l, e, R, s, m, args, below, meth, c, cl, sl, Qf⟩ := M
  obtain ⟨hx, hb, hml, hown, hts, hlk, hr, hR, hK, hE, hok, hcl⟩ := C
  intro r σ' hX H locs ls hP hS hl
  by_cases hc : x = v
  · rw [if_pos hc] at hX
    subst hc
    exact lv_lookup hx hb hd hp ho ht (K1 r σ' hX H locs ls hP hS hl)
  · rw [if_neg hc] at hX
    exact K2 hc r σ' hX H locs ls hP hS hl
theorem go_lkd (C : fh_Cx E M cc nL own rt rm) {dflt off : Int} {ps : Array (Int × Int)} {len : Nat} {x : Int32} (tgt : Nat) (hd : decode cc pc = .ok (.lookupswitch dflt ps, len)) (hp : (ps.toList.zip (ps.toList.drop 1)).all (fun (a, next) => a.1 < next.1) = true) (ho : Op.lookupswitch.offset ps.toList dflt x.toInt = off) (ht : (pc : Int) + off = (tgt : Int)) (K : fh_Go E M nL vw tgt lv st σ X) : fh_Go E M nL vw pc lv (.int x :: st) σ X := by
  obtain ⟨p, l, e, R, s, m, args, below, meth, c, cl, sl, Qf⟩ := M
  obtain ⟨hx, hb, hml, hown, hts, hlk, hr, hR, hK, hE, hok, hcl⟩ := C
  intro r σ' hX H locs ls hP hS hl
  exact lv_lookup hx hb hd hp ho ht (K r σ' hX H locs ls hP hS hl)
theorem fh_ne {x v : Int32} {z : Int} (h : ¬ x = v) (hz : v.toInt = z) : x.toInt ≠ z := fun e => h (Int32.toInt_inj.mp (e.trans hz.symm))
theorem go_aret {X : Option Nat × fh_S} {t : FieldType} (C : fh_Cx E M cc nL own (some (.array t)) rm) (Hr : fh_Rt E M) {k : Nat} (hX : X = (some k, σ)) (hd : decode cc pc = .ok (.areturn, 1)) : fh_Go E M nL (fh_vR E) pc lv [.ref (fh_ad E k)] σ (some X) := by
  obtain ⟨p, l, e, R, s, m, args, below, meth, c, cl, sl, Qf⟩ := M
  obtain ⟨hx, hb, hml, hown, hts, hlk, hr, hR, hK, hE, hok, hcl⟩ := C
  obtain ⟨rfl, rfl, rfl⟩ := Hr
  subst hX
  intro r σ' hX H locs ls hP hS hl
  cases hX
  exact W.aret hx hb hr (Or.inr ⟨_, rfl⟩) (Or.inr ⟨_, rfl⟩) (fun t ht hW => ⟨rfl, by rw [ht]; exact hP, hS.F ht⟩) hS.2.2 hd hlk
theorem go_aretN {X : Option Nat × fh_S} {t : FieldType} (C : fh_Cx E M cc nL own (some (.array t)) rm) (Hr : fh_Rt E M) (hX : X = (none, σ)) (hd : decode cc pc = .ok (.areturn, 1)) : fh_Go E M nL (fh_vR E) pc lv [.null] σ (some X) := by
  obtain ⟨p, l, e, R, s, m, args, below, meth, c, cl, sl, Qf⟩ := M
  obtain ⟨hx, hb, hml, hown, hts, hlk, hr, hR, hK, hE, hok, hcl⟩ := C
  obtain ⟨rfl, rfl, rfl⟩ := Hr
  subst hX
  intro r σ' hX H locs ls hP hS hl
  cases hX
  exact W.aret hx hb hr (Or.inr ⟨_, rfl⟩) (Or.inl rfl) (fun t ht hW => ⟨rfl, by rw [ht]; exact hP, hS.F ht⟩) hS.2.2 hd hlk
theorem go_aretS {X : Nat × fh_S} {t : String} (C : fh_Cx E M cc nL own (some (.object t)) rm) (Hr : fh_Rt E M) {k : Nat} (hX : X = (k, σ)) (hd : decode cc pc = .ok (.areturn, 1)) : fh_Go E M nL (fh_vS E) pc lv [.ref (fh_aK E k)] σ (some X) := by
  obtain ⟨p, l, e, R, s, m, args, below, meth, c, cl, sl, Qf⟩ := M
  obtain ⟨hx, hb, hml, hown, hts, hlk, hr, hR, hK, hE, hok, hcl⟩ := C
  obtain ⟨rfl, rfl, rfl⟩ := Hr
  subst hX
  intro r σ' hX H locs ls hP hS hl
  cases hX
  exact W.aret hx hb hr (Or.inl ⟨_, rfl⟩) (Or.inr ⟨_, rfl⟩) (fun t ht hW => ⟨rfl, by rw [ht]; exact hP, hS.F ht⟩) hS.2.2 hd hlk

theorem go_eq {st' : List Value} (h : st = st') (K : fh_Go E M nL vw pc lv st' σ X) : fh_Go E M nL vw pc lv st σ X := h ▸ K
theorem go_X {X' : Option (α × fh_S)} (h : X = X') (K : fh_Go E M nL vw pc lv st σ X') : fh_Go E M nL vw pc lv st σ X := h ▸ K
theorem go_none : fh_Go E M nL vw pc lv st σ none := by
  obtain ⟨p, l, e, R, s, m, args, below, meth, c, cl, sl, Qf⟩ := M
  intro r σ' h
  cases h
/-- other locals listed -/
theorem go_lv {lv' : List (Nat × Value)} (ks : List Nat) (h : lv_pick lv ks = lv') (K : fh_Go E M nL vw pc lv' st σ X) : fh_Go E M nL vw pc lv st σ X := by
  obtain ⟨p, l, e, R, s, m, args, below, meth, c, cl, sl, Qf⟩ := M
  intro r σ' hX H locs ls hP hS hl
  exact K r σ' hX H locs ls hP hS (lv_sub hl ks h)
-- the store
theorem go_iald (C : fh_Cx E M cc nL own rt rm) {X : Int32 → Option (α × fh_S)} {k : Nat} {i : Int32} (hd : decode cc pc = .ok (.iaload, 1)) (K : ∀ v, fh_Go E M nL vw (pc + 1) lv (.int v :: st) σ (X v)) : fh_Go E M nL vw pc lv (.int i :: .ref (fh_ad E k) :: st) σ ((fh_ld σ k i).bind X) := by
  obtain ⟨p, l, e, R, s, m, args, below, meth, c, cl, sl, Qf⟩ := M
  obtain ⟨hx, hb, hml, hown, hts, hlk, hr, hR, hK, hE, hok, hcl⟩ := C
  intro r σ' hX H locs ls hP hS hl
  unfold fh_ld fh_arr at hX
  split at hX
  · rename_i n hs
    simp only [Option.bind_some] at hX
    split at hX
    · cases hX
    · rename_i hin
      exact va_iald (D := fh_D E) (tys := fh_ty E) (cl := fh_cl) (ws := fh_ws E σ) hx hb hK hP k 0 (n := n) (f := σ k) (fh_look hs) rfl hin hd (K _ r σ' hX H locs ls hP hS hl)
  · cases hX
theorem go_iast (C : fh_Cx E M cc nL own rt rm) {X : fh_S → Option (α × fh_S)} {k : Nat} {i v : Int32} (hd : decode cc pc = .ok (.iastore, 1)) (K : ∀ σ1, fh_Go E M nL vw (pc + 1) lv st σ1 (X σ1)) : fh_Go E M nL vw pc lv (.int v :: .int i :: .ref (fh_ad E k) :: st) σ ((fh_st σ k i v).bind X) := by
  obtain ⟨p, l, e, R, s, m, args, below, meth, c, cl, sl, Qf⟩ := M
  obtain ⟨hx, hb, hml, hown, hts, hlk, hr, hR, hK, hE, hok, hcl⟩ := C
  intro r σ' hX H locs ls hP hS hl
  unfold fh_st fh_arr at hX
  split at hX
  · rename_i n hs
    simp only [Option.bind_some] at hX
    split at hX
    · cases hX
    · rename_i hin
      refine va_iast (D := fh_D E) (tys := fh_ty E) (cl := fh_cl) (ws := fh_ws E σ) hx hb hK hP (fh_hD hok σ) hS k 0 (n := n) (f := σ k) (fh_look hs) rfl hin hd (fun H1 locs1 hP1 _ hS1 => ?_)
      have e1 := fh_set (E := E) (σ := σ) (f := upd (σ k) i.toNatClampNeg v) hs
      exact K _ r σ' hX H1 locs1 ls (e1 ▸ hP1) hS1 hl
  · cases hX
theorem go_alen (C : fh_Cx E M cc nL own rt rm) {X : Int32 → Option (α × fh_S)} {k : Nat} (hd : decode cc pc = .ok (.arraylength, 1)) (K : ∀ v, fh_Go E M nL vw (pc + 1) lv (.int v :: st) σ (X v)) : fh_Go E M nL vw pc lv (.ref (fh_ad E k) :: st) σ ((fh_ln k).bind X) := by
  obtain ⟨p, l, e, R, s, m, args, below, meth, c, cl, sl, Qf⟩ := M
  obtain ⟨hx, hb, hml, hown, hts, hlk, hr, hR, hK, hE, hok, hcl⟩ := C
  intro r σ' hX H locs ls hP hS hl
  unfold fh_ln at hX
  split at hX
  · rename_i n hs
    simp only [Option.bind_some] at hX
    exact va_alen (D := fh_D E) (tys := fh_ty E) (cl := fh_cl) (ws := fh_ws E σ) hx hb hK hP k 0 (fh_look hs) rfl rfl hd (K _ r σ' hX H locs ls hP hS hl)
  · rename_i hs
    simp only [Option.bind_some] at hX
    exact va_alen (D := fh_D E) (tys := fh_ty E) (cl := fh_cl) (ws := fh_ws E σ) hx hb hK hP k 2 (fh_look hs) rfl rfl hd (K _ r σ' hX H locs ls hP hS hl)
  · cases hX
theorem go_aald (C : fh_Cx E M cc nL own rt rm) {X : Nat → Option (α × fh_S)} {k : Nat} {i : Int32} (hd : decode cc pc = .ok (.aaload, 1)) (K : ∀ q, fh_Go E M nL vw (pc + 1) lv (.ref (fh_ad E q) :: st) σ (X q)) : fh_Go E M nL vw pc lv (.int i :: .ref (fh_ad E k) :: st) σ ((fh_lr k i).bind X) := by
  obtain ⟨p, l, e, R, s, m, args, below, meth, c, cl, sl, Qf⟩ := M
  obtain ⟨hx, hb, hml, hown, hts, hlk, hr, hR, hK, hE, hok, hcl⟩ := C
  intro r σ' hX H locs ls hP hS hl
  unfold fh_lr at hX
  split at hX
  · rename_i hs
    split at hX
    · cases hX
    · rename_i hin
      exact va_aldq (D := fh_D E) (tys := fh_ty E) (cl := fh_cl) (ws := fh_ws E σ) hx hb hK hP k 1 (fh_look hs) rfl hin hd (K _ r σ' hX H locs ls hP hS hl)
  · cases hX
theorem go_aals (C : fh_Cx E M cc nL own rt rm) {X : Nat → Option (α × fh_S)} {k : Nat} {i : Int32} (hd : decode cc pc = .ok (.aaload, 1)) (K : ∀ q, fh_Go E M nL vw (pc + 1) lv (.ref (fh_aK E q) :: st) σ (X q)) : fh_Go E M nL vw pc lv (.int i :: .ref (fh_ad E k) :: st) σ ((fh_ls k i).bind X) := by
  obtain ⟨p, l, e, R, s, m, args, below, meth, c, cl, sl, Qf⟩ := M
  obtain ⟨hx, hb, hml, hown, hts, hlk, hr, hR, hK, hE, hok, hcl⟩ := C
  intro r σ' hX H locs ls hP hS hl
  unfold fh_ls at hX
  split at hX
  · rename_i hs
    split at hX
    · cases hX
    · rename_i hin
      exact va_aldq (D := fh_D E) (tys := fh_ty E) (cl := fh_cl) (ws := fh_ws E σ) hx hb hK hP k 2 (fh_look hs) rfl hin hd (K _ r σ' hX H locs ls hP hS hl)
  · cases hX
theorem fh_obj_spec {ci k : Nat} {fs : List (Option Nat)} (h : fh_obj ci k = some fs) : fh_shp k = some (.inr (.inl (ci, fs))) := by
  unfold fh_obj at h
  split at h
  · rename_i c fs' hs
    split at h
    · rename_i hc
      cases h
      rw [← hc]
      exact hs
    · cases h
  · cases h
/-- an int field read -/
theorem go_gi (C : fh_Cx E M cc nL own rt rm) {X : Int32 → Option (α × fh_S)} {k ci j N idx : Nat} {ref cn : String} {T : u_T} (hin : ∀ w ∈ u_ws cn T N, w ∈ fh_T) (hc : fh_cl[ci]? = some (cn, T, N)) (hj : j < N) (hsame : ref = (T j).1) (hlink : Cond.fieldLink own idx ref (T j).2.1 (T j).2.2.1 ∈ fh_T) (hd : decode cc pc = .ok (.getfield idx, 3)) (K : ∀ v, fh_Go E M nL vw (pc + 3) lv (.int v :: st) σ (X v)) : fh_Go E M nL vw pc lv (.ref (fh_ad E k) :: st) σ ((fh_gi σ ci k j).bind X) := by
  obtain ⟨p, l, e, R, s, m, args, below, meth, c, cl, sl, Qf⟩ := M
  obtain ⟨hx, hb, hml, hown, hts, hlk, hr, hR, hK, hE, hok, hcl⟩ := C
  intro r σ' hX H locs ls hP hS hl
  unfold fh_gi at hX
  cases ho : fh_obj ci k with
  | none => rw [ho] at hX; cases hX
  | some fs =>
    rw [ho] at hX
    simp only [Option.bind_some] at hX
    split at hX
    · rename_i hf
      simp only [Option.bind_some] at hX
      subst hsame
      refine va_get (D := fh_D E) (tys := fh_ty E) (cl := fh_cl) (ws := fh_ws E σ) (v := .int (σ k j)) hx hb hts hin hown hK hP k (fh_look (fh_obj_spec ho)) hc j hj (hts _ hlink) (fun _ h => h) ?_ hd (K _ r σ' hX H locs ls hP hS hl)
      simp [List.getElem?_mapIdx, hf]
    · cases hX
/-- a field that is a fixed cell -/
theorem go_gr (C : fh_Cx E M cc nL own rt rm) {X : Nat → Option (α × fh_S)} {k ci j N idx : Nat} {ref cn : String} {T : u_T} (hin : ∀ w ∈ u_ws cn T N, w ∈ fh_T) (hc : fh_cl[ci]? = some (cn, T, N)) (hj : j < N) (hsame : ref = (T j).1) (hlink : Cond.fieldLink own idx ref (T j).2.1 (T j).2.2.1 ∈ fh_T) (hd : decode cc pc = .ok (.getfield idx, 3)) (K : ∀ q, fh_Go E M nL vw (pc + 3) lv (.ref (fh_ad E q) :: st) σ (X q)) : fh_Go E M nL vw pc lv (.ref (fh_ad E k) :: st) σ ((fh_gr ci k j).bind X) := by
  obtain ⟨p, l, e, R, s, m, args, below, meth, c, cl, sl, Qf⟩ := M
  obtain ⟨hx, hb, hml, hown, hts, hlk, hr, hR, hK, hE, hok, hcl⟩ := C
  intro r σ' hX H locs ls hP hS hl
  unfold fh_gr at hX
  cases ho : fh_obj ci k with
  | none => rw [ho] at hX; cases hX
  | some fs =>
    rw [ho] at hX
    simp only [Option.bind_some] at hX
    split at hX
    · rename_i q hf
      simp only [Option.bind_some] at hX
      subst hsame
      refine va_get (D := fh_D E) (tys := fh_ty E) (cl := fh_cl) (ws := fh_ws E σ) (v := .ref (fh_ad E q)) hx hb hts hin hown hK hP k (fh_look (fh_obj_spec ho)) hc j hj (hts _ hlink) (fun _ h => h) ?_ hd (K _ r σ' hX H locs ls hP hS hl)
      simp [List.getElem?_mapIdx, hf]
    · cases hX
theorem fh_fset {E : fh_E} {f : Nat → Int32} {fs : List (Option Nat)} {j : Nat} {v : Int32} (h : fs[j]? = some none) : (fs.mapIdx (fun j o => match o with
    | none => Value.int (f j)
    | some q => .ref (fh_ad E q))).set j (.int v) = fs.mapIdx (fun j' o => match o with
    | none => Value.int (upd f j v j')
    | some q => .ref (fh_ad E q)) := by
  have hl : j < fs.length := (List.getElem?_eq_some_iff.mp h).1
  apply List.ext_getElem?
  intro i
  by_cases hi : i = j
  · subst hi
    rw [List.getElem?_set_self (by simpa using hl), List.getElem?_mapIdx, h]
    simp [upd]
  · rw [List.getElem?_set_ne (Ne.symm hi), List.getElem?_mapIdx, List.getElem?_mapIdx]
    cases fs[i]? with
    | none => rfl
    | some o => cases o <;> simp [upd, hi]
theorem go_pf (C : fh_Cx E M cc nL own rt rm) {X : fh_S → Option (α × fh_S)} {k ci j N idx : Nat} {ref cn : String} {T : u_T} {v : Int32} (ty0 : Nat → FieldType) (hty : ∀ k, k < N → parseFieldDescriptor (T k).2.2.1 = some (ty0 k)) (hnm : ∀ a, a < N → ∀ b, b < N → a ≠ b → (T a).2.1 ≠ (T b).2.1) (hin : ∀ w ∈ u_ws cn T N, w ∈ fh_T) (hc : fh_cl[ci]? = some (cn, T, N)) (hj : j < N) (hsame : ref = (T j).1) (hlink : Cond.fieldLink own idx ref (T j).2.1 (T j).2.2.1 ∈ fh_T) (hfin : (T j).2.2.2 = false) (hi : ty0 j = .int) (hd : decode cc pc = .ok (.putfield idx, 3)) (K : ∀ σ1, fh_Go E M nL vw (pc + 3) lv st σ1 (X σ1)) : fh_Go E M nL vw pc lv (.int v :: .ref (fh_ad E k) :: st) σ ((fh_pf σ ci k j v).bind X) := by
  obtain ⟨p, l, e, R, s, m, args, below, meth, c, cl, sl, Qf⟩ := M
  obtain ⟨hx, hb, hml, hown, hts, hlk, hr, hR, hK, hE, hok, hcl⟩ := C
  intro r σ' hX H locs ls hP hS hl
  unfold fh_pf at hX
  cases ho : fh_obj ci k with
  | none => rw [ho] at hX; cases hX
  | some fs =>
    rw [ho] at hX
    simp only [Option.bind_some] at hX
    split at hX
    · rename_i hf
      simp only [Option.bind_some] at hX
      subst hsame
      have hsh := fh_obj_spec ho
      refine va_put (D := fh_D E) (tys := fh_ty E) (cl := fh_cl) (ws := fh_ws E σ) (ty := .int) hx hb hts hin ty0 hty hnm hown hK hP (fh_hD hok σ) hS k (fh_look hsh) hc j hj (hts _ hlink) (fun _ h => h) hfin (by rw [hty j hj, hi]) rfl rfl (by rw [List.length_mapIdx]; exact (List.getElem?_eq_some_iff.mp hf).1) hd (fun H1 locs1 hP1 _ hS1 => ?_)
      rw [fh_fset hf] at hP1
      have e1 := fh_set (E := E) (σ := σ) (f := upd (σ k) j v) hsh
      exact K _ r σ' hX H1 locs1 ls (e1 ▸ hP1) hS1 hl
    · cases hX
theorem go_pz (C : fh_Cx E M cc nL own rt rm) {X : fh_S → Option (α × fh_S)} {k ci j N idx : Nat} {ref cn : String} {T : u_T} {v : Int32} (ty0 : Nat → FieldType) (hty : ∀ k, k < N → parseFieldDescriptor (T k).2.2.1 = some (ty0 k)) (hnm : ∀ a, a < N → ∀ b, b < N → a ≠ b → (T a).2.1 ≠ (T b).2.1) (hin : ∀ w ∈ u_ws cn T N, w ∈ fh_T) (hc : fh_cl[ci]? = some (cn, T, N)) (hj : j < N) (hsame : ref = (T j).1) (hlink : Cond.fieldLink own idx ref (T j).2.1 (T j).2.2.1 ∈ fh_T) (hfin : (T j).2.2.2 = false) (hi : ty0 j = .boolean) (hd : decode cc pc = .ok (.putfield idx, 3)) (K : ∀ σ1, fh_Go E M nL vw (pc + 3) lv st σ1 (X σ1)) : fh_Go E M nL vw pc lv (.int v :: .ref (fh_ad E k) :: st) σ ((fh_pz σ ci k j v).bind X) := by
  obtain ⟨p, l, e, R, s, m, args, below, meth, c, cl, sl, Qf⟩ := M
  obtain ⟨hx, hb, hml, hown, hts, hlk, hr, hR, hK, hE, hok, hcl⟩ := C
  intro r σ' hX H locs ls hP hS hl
  unfold fh_pz at hX
  split at hX
  case isFalse => cases hX
  rename_i hv
  unfold fh_pf at hX
  cases ho : fh_obj ci k with
  | none => rw [ho] at hX; cases hX
  | some fs =>
    rw [ho] at hX
    simp only [Option.bind_some] at hX
    split at hX
    · rename_i hf
      simp only [Option.bind_some] at hX
      subst hsame
      have hsh := fh_obj_spec ho
      refine va_put (D := fh_D E) (tys := fh_ty E) (cl := fh_cl) (ws := fh_ws E σ) (ty := .boolean) hx hb hts hin ty0 hty hnm hown hK hP (fh_hD hok σ) hS k (fh_look hsh) hc j hj (hts _ hlink) (fun _ h => h) hfin (by rw [hty j hj, hi]) (by rcases hv with rfl | rfl <;> rfl) (by rcases hv with rfl | rfl <;> rfl) (by rw [List.length_mapIdx]; exact (List.getElem?_eq_some_iff.mp hf).1) hd (fun H1 locs1 hP1 _ hS1 => ?_)
      rw [fh_fset hf] at hP1
      have e1 := fh_set (E := E) (σ := σ) (f := upd (σ k) j v) hsh
      exact K _ r σ' hX H1 locs1 ls (e1 ▸ hP1) hS1 hl
    · cases hX
-- the table of kinds
theorem go_tu (C : fh_Cx E M cc nL own rt rm) {idx : Nat} (hlink : Cond.fieldLink own idx "FollowedHours" "UPPER_KIND" "[I" ∈ fh_T) (hd : decode cc pc = .ok (.getstatic idx, 3)) (K : fh_Go E M nL vw (pc + 3) lv (.ref (fh_tu E) :: st) σ X) : fh_Go E M nL vw pc lv st σ X := by
  obtain ⟨p, l, e, R, s, m, args, below, meth, c, cl, sl, Qf⟩ := M
  obtain ⟨hx, hb, hml, hown, hts, hlk, hr, hR, hK, hE, hok, hcl⟩ := C
  intro r σ' hX H locs ls hP hS hl
  exact va_gets hx hb hE.1 hS hown (hts _ hlink) (fun _ h => h) hd (K r σ' hX H locs ls hP hS hl)
theorem go_tuN (C : fh_Cx E M cc nL own rt rm) {idx : Nat} (hlink : Cond.fieldLinkNest own idx "FollowedHours" "UPPER_KIND" "[I" "FollowedHours" ∈ fh_nest) (hd : decode cc pc = .ok (.getstatic idx, 3)) (K : fh_Go E M nL vw (pc + 3) lv (.ref (fh_tu E) :: st) σ X) : fh_Go E M nL vw pc lv st σ X := by
  obtain ⟨p, l, e, R, s, m, args, below, meth, c, cl, sl, Qf⟩ := M
  obtain ⟨hx, hb, hml, hown, hts, hlk, hr, hR, hK, hE, hok, hcl⟩ := C
  intro r σ' hX H locs ls hP hS hl
  exact va_getsN hx hb hE.1 hS hown (va_Nw.use rfl (hE.2.2.2.2.2.2 _ hlink)) (fun _ h => h) hd (K r σ' hX H locs ls hP hS hl)
theorem go_tl (C : fh_Cx E M cc nL own rt rm) (hd : decode cc pc = .ok (.arraylength, 1)) (K : fh_Go E M nL vw (pc + 1) lv (.int 7 :: st) σ X) : fh_Go E M nL vw pc lv (.ref (fh_tu E) :: st) σ X := by
  obtain ⟨p, l, e, R, s, m, args, below, meth, c, cl, sl, Qf⟩ := M
  obtain ⟨hx, hb, hml, hown, hts, hlk, hr, hR, hK, hE, hok, hcl⟩ := C
  intro r σ' hX H locs ls hP hS hl
  exact va_tlen hx hb hE.2.1 hS rfl hd (K r σ' hX H locs ls hP hS hl)
theorem go_tk (C : fh_Cx E M cc nL own rt rm) {X : Int32 → Option (α × fh_S)} {i : Int32} (hd : decode cc pc = .ok (.iaload, 1)) (K : ∀ v, fh_Go E M nL vw (pc + 1) lv (.int v :: st) σ (X v)) : fh_Go E M nL vw pc lv (.int i :: .ref (fh_tu E) :: st) σ ((fh_tk i).bind X) := by
  obtain ⟨p, l, e, R, s, m, args, below, meth, c, cl, sl, Qf⟩ := M
  obtain ⟨hx, hb, hml, hown, hts, hlk, hr, hR, hK, hE, hok, hcl⟩ := C
  intro r σ' hX H locs ls hP hS hl
  unfold fh_tk at hX
  split at hX
  · cases hX
  · rename_i hin
    exact va_ti hx hb hE.2.1 hS hin rfl hd (K _ r σ' hX H locs ls hP hS hl)
theorem go_ldcS (C : fh_Cx E M cc nL own rt rm) {idx : Nat} {tx : String} (i : Nat) (hq : fh_so[i]? = some (own, idx, tx)) (hd : decode cc pc = .ok (.ldc idx, 2)) (K : fh_Go E M nL vw (pc + 2) lv (.ref (fh_aK E i) :: st) σ X) : fh_Go E M nL vw pc lv st σ X := by
  obtain ⟨p, l, e, R, s, m, args, below, meth, c, cl, sl, Qf⟩ := M
  obtain ⟨hx, hb, hml, hown, hts, hlk, hr, hR, hK, hE, hok, hcl⟩ := C
  intro r σ' hX H locs ls hP hS hl
  exact va_ldcS hx hb hown (hE.2.2.2.2.2.1 i _ hq) hd (K r σ' hX H locs ls hP hS hl)
-- ends
theorem go_iret {X : Int32 × fh_S} (C : fh_Cx E M cc nL own (some .int) rm) (Hr : fh_Rt E M) {v : Int32} (hX : X = (v, σ)) (hd : decode cc pc = .ok (.ireturn, 1)) : fh_Go E M nL fh_vI pc lv [.int v] σ (some X) := by
  obtain ⟨p, l, e, R, s, m, args, below, meth, c, cl, sl, Qf⟩ := M
  obtain ⟨hx, hb, hml, hown, hts, hlk, hr, hR, hK, hE, hok, hcl⟩ := C
  obtain ⟨rfl, rfl, rfl⟩ := Hr
  subst hX
  intro r σ' hX H locs ls hP hS hl
  cases hX
  exact W.iret hx hb hr (fun t ht hW => ⟨rfl, by rw [ht]; exact hP, hS.F ht⟩) hS.2.2 hd hlk
theorem go_zret (C : fh_Cx E M cc nL own (some .boolean) rm) (Hr : fh_Rt E M) {v : Int32} (hd : decode cc pc = .ok (.ireturn, 1)) : fh_Go E M nL fh_vI pc lv [.int v] σ (fh_rz v σ) := by
  obtain ⟨p, l, e, R, s, m, args, below, meth, c, cl, sl, Qf⟩ := M
  obtain ⟨hx, hb, hml, hown, hts, hlk, hr, hR, hK, hE, hok, hcl⟩ := C
  obtain ⟨rfl, rfl, rfl⟩ := Hr
  intro r σ' hX H locs ls hP hS hl
  unfold fh_rz at hX
  split at hX
  · rename_i hv
    cases hX
    exact W.zret hx hb hr (by rcases hv with rfl | rfl <;> rfl) (fun t ht hW => ⟨rfl, by rw [ht]; exact hP, hS.F ht⟩) hS.2.2 hd hlk
  · cases hX
theorem go_vret {X : Unit × fh_S} (C : fh_Cx E M cc nL own none rm) (Hr : fh_Rt E M) (hX : X = ((), σ)) (hd : decode cc pc = .ok (.return_, 1)) : fh_Go E M nL fh_vU pc lv [] σ (some X) := by
  obtain ⟨p, l, e, R, s, m, args, below, meth, c, cl, sl, Qf⟩ := M
  obtain ⟨hx, hb, hml, hown, hts, hlk, hr, hR, hK, hE, hok, hcl⟩ := C
  obtain ⟨rfl, rfl, rfl⟩ := Hr
  subst hX
  intro r σ' hX H locs ls hP hS hl
  cases hX
  exact W.vret hx hb hr (fun t ht hW => ⟨rfl, by rw [ht]; exact hP, hS.F ht⟩) hS.2.2 hd hlk
theorem go_lret {X : Int64 × fh_S} (C : fh_Cx E M cc nL own (some .long) rm) (Hr : fh_Rt E M) {v : Int64} (hX : X = (v, σ)) (hd : decode cc pc = .ok (.lreturn, 1)) : fh_Go E M nL fh_vL pc lv [.long v] σ (some X) := by
  obtain ⟨p, l, e, R, s, m, args, below, meth, c, cl, sl, Qf⟩ := M
  obtain ⟨hx, hb, hml, hown, hts, hlk, hr, hR, hK, hE, hok, hcl⟩ := C
  obtain ⟨rfl, rfl, rfl⟩ := Hr
  subst hX
  intro r σ' hX H locs ls hP hS hl
  cases hX
  exact W.lret hx hb hr (fun t ht hW => ⟨rfl, by rw [ht]; exact hP, hS.F ht⟩) hS.2.2 hd hlk
end FHGO
