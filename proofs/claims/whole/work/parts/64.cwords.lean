/-! ===== the words of the constructors ===== -/
set_option maxRecDepth 100000 in
theorem q_19 : (Cond.methodLink "FollowedHours" (3 : Nat) ({ cls := "java/lang/Object", name := "<init>", desc := "()V" } : Jvm.MethodName)) ∈ fh_T := fh_Tin 19 (by decide +kernel) rfl
set_option maxRecDepth 100000 in
theorem q_20 : (Cond.instanceMethod ({ cls := "java/lang/Object", name := "<init>", desc := "()V" } : Jvm.MethodName)) ∈ fh_T := fh_Tin 20 (by decide +kernel) rfl
set_option maxRecDepth 100000 in
theorem q_21 : (Cond.code ({ cls := "java/lang/Object", name := "<init>", desc := "()V" } : Jvm.MethodName) object_method_1_code (1 : Nat) (Option.none : Option Jvm.ClassFile.FieldType)) ∈ fh_T := fh_Tin 21 (by decide +kernel) rfl
set_option maxRecDepth 100000 in
theorem q_22 : (Cond.classLink "FollowedHours" (9 : Nat) "FollowedHours$Garden") ∈ fh_T := fh_Tin 22 (by decide +kernel) rfl
set_option maxRecDepth 100000 in
theorem q_23 : (Cond.instantiable "FollowedHours$Garden" (12 : Nat)) ∈ fh_T := fh_Tin 23 (by decide +kernel) rfl
set_option maxRecDepth 100000 in
theorem q_24 : (Cond.methodLink "FollowedHours" (11 : Nat) ({ cls := "FollowedHours$Garden", name := "<init>", desc := "()V" } : Jvm.MethodName)) ∈ fh_T := fh_Tin 24 (by decide +kernel) rfl
set_option maxRecDepth 100000 in
theorem q_25 : (Cond.instanceMethod ({ cls := "FollowedHours$Garden", name := "<init>", desc := "()V" } : Jvm.MethodName)) ∈ fh_T := fh_Tin 25 (by decide +kernel) rfl
set_option maxRecDepth 100000 in
theorem q_26 : (Cond.code ({ cls := "FollowedHours$Garden", name := "<init>", desc := "()V" } : Jvm.MethodName) prog_2_method_1_code (2 : Nat) (Option.none : Option Jvm.ClassFile.FieldType)) ∈ fh_T := fh_Tin 26 (by decide +kernel) rfl
set_option maxRecDepth 100000 in
theorem q_27 : (Cond.methodLink "FollowedHours$Garden" (3 : Nat) ({ cls := "java/lang/Object", name := "<init>", desc := "()V" } : Jvm.MethodName)) ∈ fh_T := fh_Tin 27 (by decide +kernel) rfl
set_option maxRecDepth 100000 in
theorem q_78 : (Cond.arrayClass Jvm.ClassFile.FieldType.int) ∈ fh_T := fh_Tin 78 (by decide +kernel) rfl
set_option maxRecDepth 100000 in
theorem q_79 : (Cond.classLink "FollowedHours" (22 : Nat) "FollowedHours$Tape") ∈ fh_T := fh_Tin 79 (by decide +kernel) rfl
set_option maxRecDepth 100000 in
theorem q_80 : (Cond.instantiable "FollowedHours$Tape" (2 : Nat)) ∈ fh_T := fh_Tin 80 (by decide +kernel) rfl
set_option maxRecDepth 100000 in
theorem q_82 : (Cond.instanceMethod ({ cls := "FollowedHours$Tape", name := "<init>", desc := "()V" } : Jvm.MethodName)) ∈ fh_T := fh_Tin 82 (by decide +kernel) rfl
set_option maxRecDepth 100000 in
theorem q_83 : (Cond.code ({ cls := "FollowedHours$Tape", name := "<init>", desc := "()V" } : Jvm.MethodName) prog_5_method_1_code (1 : Nat) (Option.none : Option Jvm.ClassFile.FieldType)) ∈ fh_T := fh_Tin 83 (by decide +kernel) rfl
set_option maxRecDepth 100000 in
theorem q_84 : (Cond.methodLink "FollowedHours$Tape" (3 : Nat) ({ cls := "java/lang/Object", name := "<init>", desc := "()V" } : Jvm.MethodName)) ∈ fh_T := fh_Tin 84 (by decide +kernel) rfl
set_option maxRecDepth 100000 in
theorem q_93 : (Cond.classLink "FollowedHours" (29 : Nat) "FollowedHours$Reader") ∈ fh_T := fh_Tin 93 (by decide +kernel) rfl
set_option maxRecDepth 100000 in
theorem q_94 : (Cond.instantiable "FollowedHours$Reader" (6 : Nat)) ∈ fh_T := fh_Tin 94 (by decide +kernel) rfl
set_option maxRecDepth 100000 in
theorem q_95 : (Cond.methodLink "FollowedHours" (31 : Nat) ({ cls := "FollowedHours$Reader", name := "<init>", desc := "(LFollowedHours$Tape;)V" } : Jvm.MethodName)) ∈ fh_T := fh_Tin 95 (by decide +kernel) rfl
set_option maxRecDepth 100000 in
theorem q_96 : (Cond.instanceMethod ({ cls := "FollowedHours$Reader", name := "<init>", desc := "(LFollowedHours$Tape;)V" } : Jvm.MethodName)) ∈ fh_T := fh_Tin 96 (by decide +kernel) rfl
set_option maxRecDepth 100000 in
theorem q_97 : (Cond.code ({ cls := "FollowedHours$Reader", name := "<init>", desc := "(LFollowedHours$Tape;)V" } : Jvm.MethodName) prog_3_method_1_code (2 : Nat) (Option.none : Option Jvm.ClassFile.FieldType)) ∈ fh_T := fh_Tin 97 (by decide +kernel) rfl
set_option maxRecDepth 100000 in
theorem q_98 : (Cond.methodLink "FollowedHours$Reader" (3 : Nat) ({ cls := "java/lang/Object", name := "<init>", desc := "()V" } : Jvm.MethodName)) ∈ fh_T := fh_Tin 98 (by decide +kernel) rfl
set_option maxRecDepth 100000 in
theorem q_118 : (Cond.classLink "FollowedHours" (38 : Nat) "FollowedHours$Sheet") ∈ fh_T := fh_Tin 118 (by decide +kernel) rfl
set_option maxRecDepth 100000 in
theorem q_120 : (Cond.instantiable "FollowedHours$Sheet" (3 : Nat)) ∈ fh_T := fh_Tin 120 (by decide +kernel) rfl
set_option maxRecDepth 100000 in
theorem q_122 : (Cond.instanceMethod ({ cls := "FollowedHours$Sheet", name := "<init>", desc := "()V" } : Jvm.MethodName)) ∈ fh_T := fh_Tin 122 (by decide +kernel) rfl
set_option maxRecDepth 100000 in
theorem q_123 : (Cond.code ({ cls := "FollowedHours$Sheet", name := "<init>", desc := "()V" } : Jvm.MethodName) prog_4_method_1_code (1 : Nat) (Option.none : Option Jvm.ClassFile.FieldType)) ∈ fh_T := fh_Tin 123 (by decide +kernel) rfl
set_option maxRecDepth 100000 in
theorem q_124 : (Cond.methodLink "FollowedHours$Sheet" (3 : Nat) ({ cls := "java/lang/Object", name := "<init>", desc := "()V" } : Jvm.MethodName)) ∈ fh_T := fh_Tin 124 (by decide +kernel) rfl
set_option maxRecDepth 100000 in
theorem q_736 : (Cond.methodLink "FollowedHoursModel" (1 : Nat) ({ cls := "java/lang/Object", name := "<init>", desc := "()V" } : Jvm.MethodName)) ∈ fh_T := fh_Tin 736 (by decide +kernel) rfl
set_option maxRecDepth 100000 in
theorem q_737 : (Cond.classLink "FollowedHoursModel" (28 : Nat) "java/lang/String") ∈ fh_T := fh_Tin 737 (by decide +kernel) rfl
