/-! ===== what stands outside, out of the start's premises ===== -/
def fs_t (i : Nat) : Term := .string (fh_so.getD i ("", 0, "")).1 (fh_so.getD i ("", 0, "")).2.1
def fs_v (i : Nat) : Term := .field (fs_t i) "java/lang/String" "value" "[B"
def fs_F : List Cond := flatC (Jvm.Cond.and given_1 narrow_1)
set_option maxRecDepth 100000 in
theorem fs_1 : ∀ i, i < 26 → Cond.exactly (fs_t i) "java/lang/String" ∈ fs_F := by decide +kernel
set_option maxRecDepth 100000 in
theorem fs_2 : ∀ i, i < 26 → Cond.eq (.field (fs_t i) "java/lang/String" "coder" "B") (.int 0) ∈ fs_F := by decide +kernel
set_option maxRecDepth 100000 in
theorem fs_3 : ∀ i, i < 26 → Cond.arrayOf (fs_v i) .byte ∈ fs_F := by decide +kernel
set_option maxRecDepth 100000 in
theorem fs_4 : ∀ i, i < 26 → Cond.eq (.length (fs_v i)) (.int (Int32.ofNat (fh_sl i))) ∈ fs_F := by decide +kernel
set_option maxRecDepth 100000 in
theorem fs_5 : ∀ i, i < 26 → ∀ j, j < fh_sl i → Cond.eq (.elem (fs_v i) (.int (Int32.ofNat j))) (.int ((fh_tx i).getD j 0)) ∈ fs_F := by decide +kernel
set_option maxRecDepth 100000 in
theorem fs_6 : ∀ i, i < 26 → Cond.stringRef (fh_so.getD i ("", 0, "")).1 (fh_so.getD i ("", 0, "")).2.1 (fh_so.getD i ("", 0, "")).2.2 ∈ tables_1 := by decide +kernel
set_option maxRecDepth 100000 in
theorem fs_7 : ∀ w ∈ fh_nest, w ∈ tables_1 ∧ w.onTables = true := by decide +kernel
def fs_u : Term := .static "FollowedHours" "UPPER_KIND" "[I"
set_option maxRecDepth 100000 in
theorem fs_8 : Cond.arrayOf fs_u .int ∈ fs_F ∧ Cond.eq (.length fs_u) (.int (Int32.ofNat 7)) ∈ fs_F ∧ ∀ j, j < 7 → Cond.eq (.elem fs_u (.int (Int32.ofNat j))) (.int (fh_uk.getD j 0)) ∈ fs_F := by decide +kernel
set_option maxRecDepth 100000 in
theorem fs_9 : Cond.eq (.static "java/lang/String" "COMPACT_STRINGS" "Z") (.int 1) ∈ fs_F ∧ Cond.isRef (.static "jdk/internal/util/Preconditions" "SIOOBE_FORMATTER" "Ljava/util/function/BiFunction;") ∈ fs_F := by decide +kernel
set_option maxRecDepth 100000 in
theorem fs_10 : Cond.laysStatic "FollowedHours" "UPPER_KIND" "[I" ∈ tables_1 ∧ Cond.laysStatic "java/lang/String" "COMPACT_STRINGS" "Z" ∈ tables_1 ∧ Cond.laysStatic "jdk/internal/util/Preconditions" "SIOOBE_FORMATTER" "Ljava/util/function/BiFunction;" ∈ tables_1 ∧ Cond.initialized "FollowedHours" ∈ tables_1 ∧ Cond.initialized "java/lang/String" ∈ tables_1 ∧ Cond.initialized "jdk/internal/util/Preconditions" ∈ tables_1 := by decide +kernel
theorem fs_so {i : Nat} {q : String × Nat × String} (h : fh_so[i]? = some q) : i < 26 ∧ fh_so.getD i ("", 0, "") = q := by
  have hl : i < fh_so.length := (List.getElem?_eq_some_iff.mp h).1
  refine ⟨hl, ?_⟩
  rw [List.getD_eq_getElem?_getD, h]
  rfl
/-- the start's part of the world -/
theorem lw_X {args : Array Value} {s : State} (hts : ∀ w ∈ lw_tbl, w.before args s = true) (hgv : (Jvm.Cond.and given_1 narrow_1).before args s = true) {A : Nat → Prop} (hA : ∀ a : Nat, a < s.heap.size → ¬ A a) :
    ∃ (aK aV : Nat → Nat) (tu : Nat), ∀ (D : va_G) (cs : ClassId × ClassId × ClassId) (ad : Nat → Nat), fh_X (D, cs, ad, aK, aV, tu, A) s := by
  have hf : ∀ w ∈ fs_F, w.before args s = true := flat_of_before _ hgv
  have htb : ∀ w ∈ tables_1, w.before args s = true := fun w hw => hts w (List.mem_append_right _ hw)
  have h0 : ∀ i : Nat, ∃ q : Nat × Nat, i < 26 → (fs_t i).eval args s none [] s = some (.ref q.1) ∧ va_O "java/lang/String" q.1 A s s.heap ∧ va_OF "java/lang/String" "coder" "B" (.int 0) q.1 A s s.heap ∧ va_OF "java/lang/String" "value" "[B" (.ref q.2) q.1 A s s.heap ∧ va_T .byte q.2 (fh_sl i) (fun j => .int ((fh_tx i).getD j 0)) A s s.heap := by
    intro i
    by_cases hi : i < 26
    · obtain ⟨a, c, cA, kA, q1, q2, q3, q4, q5, q6, -⟩ := Cond.exactly_spec (args := args) (first := s) (o := none) (s := s) (idx := []) (t := fs_t i) (cls := "java/lang/String") (hf _ (fs_1 i hi))
      have hlen := w_len i hi
      obtain ⟨t, ht, hT⟩ := va_Tof (f := fun j => .int ((fh_tx i).getD j 0)) (A := A) (N := fh_sl i) (by omega) (hf _ (fs_3 i hi)) (va_eqt (hf _ (fs_4 i hi))) (fun j hj => va_eqt (hf _ (fs_5 i hi j hj))) hA
      exact ⟨(a, t), fun _ => ⟨q1, ⟨cA, q3, q5, by rw [q6]; exact q2, hA a (Array.getElem?_eq_some_iff.mp q3).1⟩, vk_OFof q1 (va_eqt (hf _ (fs_2 i hi))) hA, vk_OFof q1 ht hA, hT⟩⟩
    · exact ⟨(0, 0), fun h => absurd h hi⟩
  obtain ⟨ad, had⟩ := Classical.axiomOfChoice h0
  obtain ⟨tu, htu, hTu⟩ := va_Tof (f := fun j => .int (fh_uk.getD j 0)) (A := A) (N := 7) (by omega) (hf _ fs_8.1) (va_eqt (hf _ fs_8.2.1)) (fun j hj => va_eqt (hf _ (fs_8.2.2 j hj))) hA
  refine ⟨fun i => (ad i).1, fun i => (ad i).2, tu, fun D cs adr => ⟨?_, hTu, ?_, ?_, fun i hi => (had i hi).2, fun i q hq => ?_, fun w hw => ?_⟩⟩
  · exact va_Zref (htb _ fs_10.1) (htb _ fs_10.2.2.2.1) htu hA
  · exact va_Zof (htb _ fs_10.2.1) (htb _ fs_10.2.2.2.2.1) (va_eqi (hf _ fs_9.1)) hA
  · exact va_Zqof (htb _ fs_10.2.2.1) (htb _ fs_10.2.2.2.2.2) (hf _ fs_9.2) hA
  · obtain ⟨hi, e⟩ := fs_so hq
    have h1 := htb _ (fs_6 i hi)
    have h2 := (had i hi).1
    unfold fs_t at h2
    rw [e] at h1 h2
    exact vk_R.of h1 h2
  · exact va_Nw.of (fs_7 w hw).2 (htb _ (fs_7 w hw).1)
