/-! THE CLAIM OUT OF ONE WALK OF THE LAW'S BODY. Your part is whole_start (and what it stands on); all else here is the same for every law, but numbers. -/
def R_law : String := "FollowedHoursLaw"
def lw_P (b : Addr) (xs : List Int32) (args : Array Value) (s : State) : Prop := args = #[.ref b] ∧ s.IntsAt b xs ∧ xs.length ≤ 3072 ∧ (Jvm.Cond.and given_1 narrow_1).before args s = true
def lw_Q (_ : Array Value) (s : State) (o : Outcome) (t : State) : Prop := o = .returned (some (.int 1)) ∧ Framed s o t [] 600000 7302250
def lw_Z (below : List Frame) (a : Array Value) (s : State) : State → Prop := fun t => ∃ o, t.status = .running ∧ Ended t below o ∧ lw_Q a s o t
/-- the law's own end, with 1 on the stack, nothing written that was there before, its room as the claim has it -/
theorem lw_ret {p : Program} {l : Launch} {e : Env} {s : State} {m : MethodId} {below : List Frame} {meth : Method} {c : Code} {b : Nat} (hx : p.tables.exec = Jvm.exec) (hb : c.code = code) (hr : meth.sig.returnType = ret) (hlocks : meth.locks = false) {pc : Nat} {H : Heap} {ls : Array Slot} (hdg : decode code pc = .ok (.ireturn, 1)) : W p l e room_1 s m #[Value.ref b] below meth c H [] 600000 7302250 (lw_Z below #[Value.ref b] s) (F0 m pc ls [.int 1]) := by
  intro T hT X
  obtain ⟨fs, hret, hrun, hended, hW, hframe⟩ := X.leave (v := some (.int 1)) (hlocks := hlocks) (fun h => by rw [hr] at h; cases h)
  have hmeth' : T.vm.method? m = some meth := X.method'
  refine ⟨T.setFrames fs, ?_, .returned (some (.int 1)), hrun, hended, rfl, ⟨_, rfl⟩, hW, hframe⟩
  jvm_step X.here [X.here.top, hx, hb, hdg, hmeth', hr, ret, narrow_b1]
  (try refine ⟨rfl, ?_⟩); (try refine ⟨rfl, ?_⟩)
  first | (intro acts; rw [hret _ acts rfl rfl rfl]) | rw [hret _ _ rfl rfl rfl]
  exact Steps.refl _
/-- what holds at the law's entry: the machine, the code, the tables' words (any of lw_tbl by 'hts w (by decide +kernel)'), the script of L ints xs at the cell b, what the Statement gives of the start (any of its parts by flat_of_before) -/
def lw_At (p : Program) (s : State) (m : MethodId) (meth : Method) (c : Code) (b L : Nat) (xs : Nat → Int32) : Prop :=
  p.tables.exec = Jvm.exec ∧ c.code = code ∧ meth.sig.returnType = ret ∧ c.maxLocals = 4 ∧ s.vm.findClass R_law = some m.cls ∧ (∀ w ∈ lw_tbl, w.before #[Value.ref b] s = true) ∧ va_X b L xs s s.heap ∧ b < s.heap.size ∧ meth.locks = false ∧ (Jvm.Cond.and given_1 narrow_1).before #[Value.ref b] s = true

/-! ===== the law: its end, its loop ===== -/
theorem by63 (y : Int32) : ∃ k, k < 64 ∧ y &&& 63 = nI k := by
  refine ⟨(y &&& 63).toBitVec.toNat, ?_, ?_⟩
  · rw [Int32.toBitVec_and, BitVec.toNat_and]
    have : y.toBitVec.toNat &&& (63 : Int32).toBitVec.toNat ≤ (63 : Int32).toBitVec.toNat := Nat.and_le_right
    have e : (63 : Int32).toBitVec.toNat = 63 := rfl
    omega
  · apply Int32.toBitVec_inj.mp
    unfold nI
    rw [Int32.toBitVec_ofNat', BitVec.ofNat_toNat, BitVec.setWidth_eq]
theorem lw_in {i k L : Nat} (h : i + k < L) (hL : L ≤ 3072) {y : Int32} (hy : y = nI k) : vp_in (nI i + y) L := by
  rw [hy, nI_add]
  exact vp_in_nI h (by omega)
section LWE
variable {E : fh_E} {p : Program} {l : Launch} {e : Env} {s : State} {m : MethodId} {b : Nat} {below : List Frame} {meth : Method} {c : Code} {cl sl : Nat} {L : Nat} {xs : Nat → Int32}
theorem lw_end (C : fh_Cx E (lw_M p l e s m b below meth c cl sl (lw_Z below #[Value.ref b] s)) code 4 RL ret room_1) (hAE : ∀ q, fh_A E q → s.heap.size ≤ q) (h1 : cl ≤ 600000) (h2 : sl ≤ 7302250) (σ : fh_S) (x : Int32) : fh_Go E (lw_M p l e s m b below meth c cl sl (lw_Z below #[Value.ref b] s)) 4 fh_vU 1551 (lw_lv E b x) [] σ (some ((), σ)) := by
  refine go_iconst C 1 dL_law_1551 (by decide) ?_
  obtain ⟨hx, hb, hml, hown, hts, hlk, hr, hR, hK, hE, hok, hcl⟩ := C
  intro r σ' hX' H locs ls hP hS hl
  refine va_forget (fun q hq => hAE _ (hS.2.2 q hq)) ?_
  refine W.widen (k := 600000) (n := 7302250) h1 h2 ?_
  exact lw_ret hx hb hr hlk dL_law_1552
theorem lw_head (C : fh_Cx E (lw_M p l e s m b below meth c cl sl (lw_Z below #[Value.ref b] s)) code 4 RL ret room_1) (hok : fh_ok E) (hX : va_X b L xs s s.heap) (hbl : b < s.heap.size) (hbA : ¬ fh_A E b) (hL : L ≤ 3072) (hAE : ∀ q, fh_A E q → s.heap.size ≤ q) (h1 : cl ≤ 600000) (h2 : sl ≤ 7302250) :
    ∀ (n N : Nat) (A σ : fh_S), N + n = 513 → AI A N → CR σ A → RR σ A → fh_Go E (lw_M p l e s m b below meth c cl sl (lw_Z below #[Value.ref b] s)) 4 fh_vU 18 (lw_lv E b (nI (6 * N))) [] σ (some ((), σ)) := by
  intro n
  induction n with
  | zero =>
    intro N A σ hN hA hC hR
    refine go_iload_n C 0 rfl rfl dL_law_18 ?_
    refine go_aload_n C 3 rfl rfl dL_law_19 ?_
    refine lw_slen C hX hbl hbA dL_law_20 ?_
    refine go_bipush C 6 dL_law_21 (by decide) ?_
    refine go_isub C dL_law_23 ?_
    have lt : nI L - 6 < nI (6 * N) := by
      rw [Int32.lt_iff_toInt_lt, sm_sub (by rw [nI_toInt (by omega)]; omega) (by decide), nI_toInt (by omega), nI_toInt (by omega), show (6 : Int32).toInt = 6 from rfl]
      omega
    have g := go_icmp_gt (X := some ((), σ)) (X2 := some ((), σ)) (x := nI (6 * N)) (y := nI L - 6) (st := []) (tgt := 1551) C dL_law_24 (by decide) (fun _ => lw_end C hAE h1 h2 σ (nI (6 * N))) (fun h => absurd lt h)
    rw [ite_self] at g
    exact g
  | succ n ih =>
    intro N A σ hN hA hC hR
    refine go_iload_n C 0 rfl rfl dL_law_18 ?_
    refine go_aload_n C 3 rfl rfl dL_law_19 ?_
    refine lw_slen C hX hbl hbA dL_law_20 ?_
    refine go_bipush C 6 dL_law_21 (by decide) ?_
    refine go_isub C dL_law_23 ?_
    have k2 : ¬ (nI L - 6 < nI (6 * N)) → fh_Go E (lw_M p l e s m b below meth c cl sl (lw_Z below #[Value.ref b] s)) 4 fh_vU (24 + 3) (lw_lv E b (nI (6 * N))) [] σ (some ((), σ)) := by
      intro h
      have hi : 6 * N + 6 ≤ L := by
        rw [Int32.lt_iff_toInt_lt, sm_sub (by rw [nI_toInt (by omega)]; omega) (by decide), nI_toInt (by omega), nI_toInt (by omega), show (6 : Int32).toInt = 6 from rfl] at h
        omega
      refine go_aload_n C 3 rfl rfl dL_law_27 ?_
      refine go_iload_n C 0 rfl rfl dL_law_28 ?_
      refine lw_sld C hX hbl hbA (vp_in_nI (by omega) (by omega)) dL_law_29 ?_
      refine go_bipush C 63 dL_law_30 (by decide) ?_
      refine go_iand C dL_law_32 ?_
      obtain ⟨k, hk, ek⟩ := by63 (xs (nI (6 * N)).toNatClampNeg)
      rw [ek]
      refine lw_sw C hok hX hbl hbA (lw_in (k := 1) (by omega) hL rfl) (lw_in (k := 2) (by omega) hL rfl) (lw_in (k := 3) (by omega) hL rfl) (lw_in (k := 4) (by omega) hL rfl) (lw_in (k := 5) (by omega) hL rfl) (show N < 512 by omega) hA hC hR (fun σ2 A' hA' hC' hR' => ?_) k hk
      refine go_iinc C (nI (6 * (N + 1))) 0 (lw_lv E b (nI (6 * (N + 1)))) rfl ?_ rfl (by decide) dL_law_1545 ?_
      · rw [show Int32.ofInt 6 = nI 6 from by decide, nI_add]
        congr 1
      · exact go_goto C 18 dL_law_1548 (by decide) (ih (N + 1) A' σ2 (by omega) hA' hC' hR')
    have g := go_icmp_gt (X := some ((), σ)) (X2 := some ((), σ)) (x := nI (6 * N)) (y := nI L - 6) (st := []) (tgt := 1551) C dL_law_24 (by decide) (fun _ => lw_end C hAE h1 h2 σ (nI (6 * N))) k2
    rw [ite_self] at g
    exact g
end LWE
