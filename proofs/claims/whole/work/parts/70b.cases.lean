/-! ===== the law: its cases (1) ===== -/
section LWC1
variable {E : fh_E} {p : Program} {l : Launch} {e : Env} {s : State} {m : MethodId} {b : Nat} {below : List Frame} {meth : Method} {c : Code} {cl sl : Nat} {Z : State → Prop} {L : Nat} {xs : Nat → Int32}
set_option maxRecDepth 100000 in
theorem lw_g24 (C : fh_Cx E (lw_M p l e s m b below meth c cl sl Z) code 4 RL ret room_1) (hok : fh_ok E) (hX : va_X b L xs s s.heap) (hbl : b < s.heap.size) (hbA : ¬ fh_A E b) {x3 : Int32} (h1 : vp_in (x3 + 1) L) (h2 : vp_in (x3 + 2) L) (h3 : vp_in (x3 + 3) L) (h4 : vp_in (x3 + 4) L) (h5 : vp_in (x3 + 5) L) {σ : fh_S} {X2 : fh_S → Option (Unit × fh_S)} (K : ∀ σ2, fh_Go E (lw_M p l e s m b below meth c cl sl Z) 4 fh_vU 1545 (lw_lv E b x3) [] σ2 (X2 σ2)) : fh_Go E (lw_M p l e s m b below meth c cl sl Z) 4 fh_vU 872 (lw_lv E b x3) [] σ (fh_cb (f_X4_masters 0 (xs (x3 + 1).toNatClampNeg) (xs (x3 + 2).toNatClampNeg) σ) fun r1 σ1 => fh_cb (f_X5_masters 44 (xs (x3 + 1).toNatClampNeg) (xs (x3 + 2).toNatClampNeg) σ1) fun r3 σ2 => if r1 = r3 then X2 σ2 else none) := by
  refine go_aload_n C 2 rfl rfl dL_law_872 ?_
  refine go_aload_n C 3 rfl rfl dL_law_873 ?_
  refine go_iload_n C 0 rfl rfl dL_law_874 ?_
  refine go_iconst C 1 dL_law_875 (by decide) ?_
  refine go_iadd C dL_law_876 ?_
  refine lw_sld C hX hbl hbA h1 dL_law_877 ?_
  refine go_aload_n C 3 rfl rfl dL_law_878 ?_
  refine go_iload_n C 0 rfl rfl dL_law_879 ?_
  refine go_iconst C 2 dL_law_880 (by decide) ?_
  refine go_iadd C dL_law_881 ?_
  refine lw_sld C hX hbl hbA h2 dL_law_882 ?_
  refine go_callVI C (st := []) [.int (xs (x3 + 1).toNatClampNeg), .int (xs (x3 + 2).toNatClampNeg)] (m_X4_masters E _ hok 0 (xs (x3 + 1).toNatClampNeg) (xs (x3 + 2).toNatClampNeg) σ) (fun _ h => fh_ob_ok h) rfl rfl ⟨q_442, q_443, q_444, q_1, q_445⟩ pd_X4_masters rfl ⟨⟨(Nat.le_of_ble_eq_true rfl), (Nat.le_of_ble_eq_true rfl)⟩, rfl, rfl⟩ (Nat.le_of_ble_eq_true rfl) dL_law_883 (fun r1 σ1 => ?_)
  refine go_aload_n C 1 rfl rfl dL_law_886 ?_
  refine go_aload_n C 3 rfl rfl dL_law_887 ?_
  refine go_iload_n C 0 rfl rfl dL_law_888 ?_
  refine go_iconst C 1 dL_law_889 (by decide) ?_
  refine go_iadd C dL_law_890 ?_
  refine lw_sld C hX hbl hbA h1 dL_law_891 ?_
  refine go_aload_n C 3 rfl rfl dL_law_892 ?_
  refine go_iload_n C 0 rfl rfl dL_law_893 ?_
  refine go_iconst C 2 dL_law_894 (by decide) ?_
  refine go_iadd C dL_law_895 ?_
  refine lw_sld C hX hbl hbA h2 dL_law_896 ?_
  refine go_callVI C (st := [.int r1]) [.int (xs (x3 + 1).toNatClampNeg), .int (xs (x3 + 2).toNatClampNeg)] (m_X5_masters E _ hok 44 (xs (x3 + 1).toNatClampNeg) (xs (x3 + 2).toNatClampNeg) σ1) (fun _ h => fh_ob_ok h) rfl rfl ⟨q_1057, q_1058, q_1059, q_6, q_1060⟩ pd_X5_masters rfl ⟨⟨(Nat.le_of_ble_eq_true rfl), (Nat.le_of_ble_eq_true rfl)⟩, rfl, rfl⟩ (Nat.le_of_ble_eq_true rfl) dL_law_897 (fun r3 σ2 => ?_)
  exact go_icmp_eq C dL_law_900 (by decide) (fun _ => K σ2) (fun _ => go_none)
set_option maxRecDepth 100000 in
theorem lw_g25 (C : fh_Cx E (lw_M p l e s m b below meth c cl sl Z) code 4 RL ret room_1) (hok : fh_ok E) (hX : va_X b L xs s s.heap) (hbl : b < s.heap.size) (hbA : ¬ fh_A E b) {x3 : Int32} (h1 : vp_in (x3 + 1) L) (h2 : vp_in (x3 + 2) L) (h3 : vp_in (x3 + 3) L) (h4 : vp_in (x3 + 4) L) (h5 : vp_in (x3 + 5) L) {σ : fh_S} {X2 : fh_S → Option (Unit × fh_S)} (K : ∀ σ2, fh_Go E (lw_M p l e s m b below meth c cl sl Z) 4 fh_vU 1545 (lw_lv E b x3) [] σ2 (X2 σ2)) : fh_Go E (lw_M p l e s m b below meth c cl sl Z) 4 fh_vU 905 (lw_lv E b x3) [] σ (fh_cb (f_X4_kinds 0 (xs (x3 + 1).toNatClampNeg) (xs (x3 + 2).toNatClampNeg) σ) fun r1 σ1 => fh_cb (f_X5_kinds 44 (xs (x3 + 1).toNatClampNeg) (xs (x3 + 2).toNatClampNeg) σ1) fun r3 σ2 => if r1 = r3 then X2 σ2 else none) := by
  refine go_aload_n C 2 rfl rfl dL_law_905 ?_
  refine go_aload_n C 3 rfl rfl dL_law_906 ?_
  refine go_iload_n C 0 rfl rfl dL_law_907 ?_
  refine go_iconst C 1 dL_law_908 (by decide) ?_
  refine go_iadd C dL_law_909 ?_
  refine lw_sld C hX hbl hbA h1 dL_law_910 ?_
  refine go_aload_n C 3 rfl rfl dL_law_911 ?_
  refine go_iload_n C 0 rfl rfl dL_law_912 ?_
  refine go_iconst C 2 dL_law_913 (by decide) ?_
  refine go_iadd C dL_law_914 ?_
  refine lw_sld C hX hbl hbA h2 dL_law_915 ?_
  refine go_callVI C (st := []) [.int (xs (x3 + 1).toNatClampNeg), .int (xs (x3 + 2).toNatClampNeg)] (m_X4_kinds E _ hok 0 (xs (x3 + 1).toNatClampNeg) (xs (x3 + 2).toNatClampNeg) σ) (fun _ h => fh_ob_ok h) rfl rfl ⟨q_462, q_463, q_464, q_1, q_465⟩ pd_X4_kinds rfl ⟨⟨(Nat.le_of_ble_eq_true rfl), (Nat.le_of_ble_eq_true rfl)⟩, rfl, rfl⟩ (Nat.le_of_ble_eq_true rfl) dL_law_916 (fun r1 σ1 => ?_)
  refine go_aload_n C 1 rfl rfl dL_law_919 ?_
  refine go_aload_n C 3 rfl rfl dL_law_920 ?_
  refine go_iload_n C 0 rfl rfl dL_law_921 ?_
  refine go_iconst C 1 dL_law_922 (by decide) ?_
  refine go_iadd C dL_law_923 ?_
  refine lw_sld C hX hbl hbA h1 dL_law_924 ?_
  refine go_aload_n C 3 rfl rfl dL_law_925 ?_
  refine go_iload_n C 0 rfl rfl dL_law_926 ?_
  refine go_iconst C 2 dL_law_927 (by decide) ?_
  refine go_iadd C dL_law_928 ?_
  refine lw_sld C hX hbl hbA h2 dL_law_929 ?_
  refine go_callVI C (st := [.int r1]) [.int (xs (x3 + 1).toNatClampNeg), .int (xs (x3 + 2).toNatClampNeg)] (m_X5_kinds E _ hok 44 (xs (x3 + 1).toNatClampNeg) (xs (x3 + 2).toNatClampNeg) σ1) (fun _ h => fh_ob_ok h) rfl rfl ⟨q_1077, q_1078, q_1079, q_6, q_1080⟩ pd_X5_kinds rfl ⟨⟨(Nat.le_of_ble_eq_true rfl), (Nat.le_of_ble_eq_true rfl)⟩, rfl, rfl⟩ (Nat.le_of_ble_eq_true rfl) dL_law_930 (fun r3 σ2 => ?_)
  exact go_icmp_eq C dL_law_933 (by decide) (fun _ => K σ2) (fun _ => go_none)
set_option maxRecDepth 100000 in
theorem lw_g26 (C : fh_Cx E (lw_M p l e s m b below meth c cl sl Z) code 4 RL ret room_1) (hok : fh_ok E) (hX : va_X b L xs s s.heap) (hbl : b < s.heap.size) (hbA : ¬ fh_A E b) {x3 : Int32} (h1 : vp_in (x3 + 1) L) (h2 : vp_in (x3 + 2) L) (h3 : vp_in (x3 + 3) L) (h4 : vp_in (x3 + 4) L) (h5 : vp_in (x3 + 5) L) {σ : fh_S} {X2 : fh_S → Option (Unit × fh_S)} (K : ∀ σ2, fh_Go E (lw_M p l e s m b below meth c cl sl Z) 4 fh_vU 1545 (lw_lv E b x3) [] σ2 (X2 σ2)) : fh_Go E (lw_M p l e s m b below meth c cl sl Z) 4 fh_vU 938 (lw_lv E b x3) [] σ (fh_cb (f_X4_masterFor 0 (xs (x3 + 1).toNatClampNeg) (xs (x3 + 2).toNatClampNeg) (xs (x3 + 3).toNatClampNeg) σ) fun r1 σ1 => fh_cb (f_X5_masterFor 44 (xs (x3 + 1).toNatClampNeg) (xs (x3 + 2).toNatClampNeg) (xs (x3 + 3).toNatClampNeg) σ1) fun r3 σ2 => if r1 = r3 then X2 σ2 else none) := by
  refine go_aload_n C 2 rfl rfl dL_law_938 ?_
  refine go_aload_n C 3 rfl rfl dL_law_939 ?_
  refine go_iload_n C 0 rfl rfl dL_law_940 ?_
  refine go_iconst C 1 dL_law_941 (by decide) ?_
  refine go_iadd C dL_law_942 ?_
  refine lw_sld C hX hbl hbA h1 dL_law_943 ?_
  refine go_aload_n C 3 rfl rfl dL_law_944 ?_
  refine go_iload_n C 0 rfl rfl dL_law_945 ?_
  refine go_iconst C 2 dL_law_946 (by decide) ?_
  refine go_iadd C dL_law_947 ?_
  refine lw_sld C hX hbl hbA h2 dL_law_948 ?_
  refine go_aload_n C 3 rfl rfl dL_law_949 ?_
  refine go_iload_n C 0 rfl rfl dL_law_950 ?_
  refine go_iconst C 3 dL_law_951 (by decide) ?_
  refine go_iadd C dL_law_952 ?_
  refine lw_sld C hX hbl hbA h3 dL_law_953 ?_
  refine go_callVI C (st := []) [.int (xs (x3 + 1).toNatClampNeg), .int (xs (x3 + 2).toNatClampNeg), .int (xs (x3 + 3).toNatClampNeg)] (m_X4_masterFor E _ hok 0 (xs (x3 + 1).toNatClampNeg) (xs (x3 + 2).toNatClampNeg) (xs (x3 + 3).toNatClampNeg) σ) (fun _ h => fh_ob_ok h) rfl rfl ⟨q_466, q_467, q_468, q_1, q_469⟩ pd_X4_masterFor rfl ⟨⟨(Nat.le_of_ble_eq_true rfl), (Nat.le_of_ble_eq_true rfl)⟩, rfl, rfl⟩ (Nat.le_of_ble_eq_true rfl) dL_law_954 (fun r1 σ1 => ?_)
  refine go_aload_n C 1 rfl rfl dL_law_957 ?_
  refine go_aload_n C 3 rfl rfl dL_law_958 ?_
  refine go_iload_n C 0 rfl rfl dL_law_959 ?_
  refine go_iconst C 1 dL_law_960 (by decide) ?_
  refine go_iadd C dL_law_961 ?_
  refine lw_sld C hX hbl hbA h1 dL_law_962 ?_
  refine go_aload_n C 3 rfl rfl dL_law_963 ?_
  refine go_iload_n C 0 rfl rfl dL_law_964 ?_
  refine go_iconst C 2 dL_law_965 (by decide) ?_
  refine go_iadd C dL_law_966 ?_
  refine lw_sld C hX hbl hbA h2 dL_law_967 ?_
  refine go_aload_n C 3 rfl rfl dL_law_968 ?_
  refine go_iload_n C 0 rfl rfl dL_law_969 ?_
  refine go_iconst C 3 dL_law_970 (by decide) ?_
  refine go_iadd C dL_law_971 ?_
  refine lw_sld C hX hbl hbA h3 dL_law_972 ?_
  refine go_callVI C (st := [.int r1]) [.int (xs (x3 + 1).toNatClampNeg), .int (xs (x3 + 2).toNatClampNeg), .int (xs (x3 + 3).toNatClampNeg)] (m_X5_masterFor E _ hok 44 (xs (x3 + 1).toNatClampNeg) (xs (x3 + 2).toNatClampNeg) (xs (x3 + 3).toNatClampNeg) σ1) (fun _ h => fh_ob_ok h) rfl rfl ⟨q_1081, q_1082, q_1083, q_6, q_1084⟩ pd_X5_masterFor rfl ⟨⟨(Nat.le_of_ble_eq_true rfl), (Nat.le_of_ble_eq_true rfl)⟩, rfl, rfl⟩ (Nat.le_of_ble_eq_true rfl) dL_law_973 (fun r3 σ2 => ?_)
  exact go_icmp_eq C dL_law_976 (by decide) (fun _ => K σ2) (fun _ => go_none)
set_option maxRecDepth 100000 in
theorem lw_g27 (C : fh_Cx E (lw_M p l e s m b below meth c cl sl Z) code 4 RL ret room_1) (hok : fh_ok E) (hX : va_X b L xs s s.heap) (hbl : b < s.heap.size) (hbA : ¬ fh_A E b) {x3 : Int32} (h1 : vp_in (x3 + 1) L) (h2 : vp_in (x3 + 2) L) (h3 : vp_in (x3 + 3) L) (h4 : vp_in (x3 + 4) L) (h5 : vp_in (x3 + 5) L) {σ : fh_S} {X2 : fh_S → Option (Unit × fh_S)} (K : ∀ σ2, fh_Go E (lw_M p l e s m b below meth c cl sl Z) 4 fh_vU 1545 (lw_lv E b x3) [] σ2 (X2 σ2)) : fh_Go E (lw_M p l e s m b below meth c cl sl Z) 4 fh_vU 981 (lw_lv E b x3) [] σ (fh_cb (f_X4_halted 0 (xs (x3 + 1).toNatClampNeg) (xs (x3 + 2).toNatClampNeg) σ) fun r1 σ1 => fh_cb (f_X5_halted 44 (xs (x3 + 1).toNatClampNeg) (xs (x3 + 2).toNatClampNeg) σ1) fun r3 σ2 => if r1 = r3 then X2 σ2 else none) := by
  refine go_aload_n C 2 rfl rfl dL_law_981 ?_
  refine go_aload_n C 3 rfl rfl dL_law_982 ?_
  refine go_iload_n C 0 rfl rfl dL_law_983 ?_
  refine go_iconst C 1 dL_law_984 (by decide) ?_
  refine go_iadd C dL_law_985 ?_
  refine lw_sld C hX hbl hbA h1 dL_law_986 ?_
  refine go_aload_n C 3 rfl rfl dL_law_987 ?_
  refine go_iload_n C 0 rfl rfl dL_law_988 ?_
  refine go_iconst C 2 dL_law_989 (by decide) ?_
  refine go_iadd C dL_law_990 ?_
  refine lw_sld C hX hbl hbA h2 dL_law_991 ?_
  refine go_callVI C (st := []) [.int (xs (x3 + 1).toNatClampNeg), .int (xs (x3 + 2).toNatClampNeg)] (m_X4_halted E _ hok 0 (xs (x3 + 1).toNatClampNeg) (xs (x3 + 2).toNatClampNeg) σ) (fun _ h => fh_ob_ok h) rfl rfl ⟨q_474, q_475, q_476, q_1, q_477⟩ pd_X4_halted rfl ⟨⟨(Nat.le_of_ble_eq_true rfl), (Nat.le_of_ble_eq_true rfl)⟩, rfl, rfl⟩ (Nat.le_of_ble_eq_true rfl) dL_law_992 (fun r1 σ1 => ?_)
  refine go_aload_n C 1 rfl rfl dL_law_995 ?_
  refine go_aload_n C 3 rfl rfl dL_law_996 ?_
  refine go_iload_n C 0 rfl rfl dL_law_997 ?_
  refine go_iconst C 1 dL_law_998 (by decide) ?_
  refine go_iadd C dL_law_999 ?_
  refine lw_sld C hX hbl hbA h1 dL_law_1000 ?_
  refine go_aload_n C 3 rfl rfl dL_law_1001 ?_
  refine go_iload_n C 0 rfl rfl dL_law_1002 ?_
  refine go_iconst C 2 dL_law_1003 (by decide) ?_
  refine go_iadd C dL_law_1004 ?_
  refine lw_sld C hX hbl hbA h2 dL_law_1005 ?_
  refine go_callVI C (st := [.int r1]) [.int (xs (x3 + 1).toNatClampNeg), .int (xs (x3 + 2).toNatClampNeg)] (m_X5_halted E _ hok 44 (xs (x3 + 1).toNatClampNeg) (xs (x3 + 2).toNatClampNeg) σ1) (fun _ h => fh_ob_ok h) rfl rfl ⟨q_1085, q_1086, q_1087, q_6, q_1088⟩ pd_X5_halted rfl ⟨⟨(Nat.le_of_ble_eq_true rfl), (Nat.le_of_ble_eq_true rfl)⟩, rfl, rfl⟩ (Nat.le_of_ble_eq_true rfl) dL_law_1006 (fun r3 σ2 => ?_)
  exact go_icmp_eq C dL_law_1009 (by decide) (fun _ => K σ2) (fun _ => go_none)
set_option maxRecDepth 100000 in
theorem lw_g28 (C : fh_Cx E (lw_M p l e s m b below meth c cl sl Z) code 4 RL ret room_1) (hok : fh_ok E) (hX : va_X b L xs s s.heap) (hbl : b < s.heap.size) (hbA : ¬ fh_A E b) {x3 : Int32} (h1 : vp_in (x3 + 1) L) (h2 : vp_in (x3 + 2) L) (h3 : vp_in (x3 + 3) L) (h4 : vp_in (x3 + 4) L) (h5 : vp_in (x3 + 5) L) {σ : fh_S} {X2 : fh_S → Option (Unit × fh_S)} (K : ∀ σ2, fh_Go E (lw_M p l e s m b below meth c cl sl Z) 4 fh_vU 1545 (lw_lv E b x3) [] σ2 (X2 σ2)) : fh_Go E (lw_M p l e s m b below meth c cl sl Z) 4 fh_vU 1014 (lw_lv E b x3) [] σ (fh_cb (f_X4_weakest 0 (xs (x3 + 1).toNatClampNeg) σ) fun r1 σ1 => fh_cb (f_X5_weakest 44 (xs (x3 + 1).toNatClampNeg) σ1) fun r3 σ2 => if r1 = r3 then X2 σ2 else none) := by
  refine go_aload_n C 2 rfl rfl dL_law_1014 ?_
  refine go_aload_n C 3 rfl rfl dL_law_1015 ?_
  refine go_iload_n C 0 rfl rfl dL_law_1016 ?_
  refine go_iconst C 1 dL_law_1017 (by decide) ?_
  refine go_iadd C dL_law_1018 ?_
  refine lw_sld C hX hbl hbA h1 dL_law_1019 ?_
  refine go_callVI C (st := []) [.int (xs (x3 + 1).toNatClampNeg)] (m_X4_weakest E _ hok 0 (xs (x3 + 1).toNatClampNeg) σ) (fun _ h => fh_ob_ok h) rfl rfl ⟨q_489, q_490, q_491, q_1, q_492⟩ pd_X4_weakest rfl ⟨⟨(Nat.le_of_ble_eq_true rfl), (Nat.le_of_ble_eq_true rfl)⟩, rfl, rfl⟩ (Nat.le_of_ble_eq_true rfl) dL_law_1020 (fun r1 σ1 => ?_)
  refine go_aload_n C 1 rfl rfl dL_law_1023 ?_
  refine go_aload_n C 3 rfl rfl dL_law_1024 ?_
  refine go_iload_n C 0 rfl rfl dL_law_1025 ?_
  refine go_iconst C 1 dL_law_1026 (by decide) ?_
  refine go_iadd C dL_law_1027 ?_
  refine lw_sld C hX hbl hbA h1 dL_law_1028 ?_
  refine go_callVI C (st := [.int r1]) [.int (xs (x3 + 1).toNatClampNeg)] (m_X5_weakest E _ hok 44 (xs (x3 + 1).toNatClampNeg) σ1) (fun _ h => fh_ob_ok h) rfl rfl ⟨q_1093, q_1094, q_1095, q_6, q_1096⟩ pd_X5_weakest rfl ⟨⟨(Nat.le_of_ble_eq_true rfl), (Nat.le_of_ble_eq_true rfl)⟩, rfl, rfl⟩ (Nat.le_of_ble_eq_true rfl) dL_law_1029 (fun r3 σ2 => ?_)
  exact go_icmp_eq C dL_law_1032 (by decide) (fun _ => K σ2) (fun _ => go_none)
set_option maxRecDepth 100000 in
theorem lw_g29 (C : fh_Cx E (lw_M p l e s m b below meth c cl sl Z) code 4 RL ret room_1) (hok : fh_ok E) (hX : va_X b L xs s s.heap) (hbl : b < s.heap.size) (hbA : ¬ fh_A E b) {x3 : Int32} (h1 : vp_in (x3 + 1) L) (h2 : vp_in (x3 + 2) L) (h3 : vp_in (x3 + 3) L) (h4 : vp_in (x3 + 4) L) (h5 : vp_in (x3 + 5) L) {σ : fh_S} {X2 : fh_S → Option (Unit × fh_S)} (K : ∀ σ2, fh_Go E (lw_M p l e s m b below meth c cl sl Z) 4 fh_vU 1545 (lw_lv E b x3) [] σ2 (X2 σ2)) : fh_Go E (lw_M p l e s m b below meth c cl sl Z) 4 fh_vU 1037 (lw_lv E b x3) [] σ (fh_cb (f_X4_cut 0 (xs (x3 + 1).toNatClampNeg) σ) fun r1 σ1 => fh_cb (f_X5_cut 44 (xs (x3 + 1).toNatClampNeg) σ1) fun r3 σ2 => if r1 = r3 then X2 σ2 else none) := by
  refine go_aload_n C 2 rfl rfl dL_law_1037 ?_
  refine go_aload_n C 3 rfl rfl dL_law_1038 ?_
  refine go_iload_n C 0 rfl rfl dL_law_1039 ?_
  refine go_iconst C 1 dL_law_1040 (by decide) ?_
  refine go_iadd C dL_law_1041 ?_
  refine lw_sld C hX hbl hbA h1 dL_law_1042 ?_
  refine go_callVI C (st := []) [.int (xs (x3 + 1).toNatClampNeg)] (m_X4_cut E _ hok 0 (xs (x3 + 1).toNatClampNeg) σ) (fun _ h => fh_ob_ok h) rfl rfl ⟨q_493, q_494, q_495, q_1, q_496⟩ pd_X4_cut rfl ⟨⟨(Nat.le_of_ble_eq_true rfl), (Nat.le_of_ble_eq_true rfl)⟩, rfl, rfl⟩ (Nat.le_of_ble_eq_true rfl) dL_law_1043 (fun r1 σ1 => ?_)
  refine go_aload_n C 1 rfl rfl dL_law_1046 ?_
  refine go_aload_n C 3 rfl rfl dL_law_1047 ?_
  refine go_iload_n C 0 rfl rfl dL_law_1048 ?_
  refine go_iconst C 1 dL_law_1049 (by decide) ?_
  refine go_iadd C dL_law_1050 ?_
  refine lw_sld C hX hbl hbA h1 dL_law_1051 ?_
  refine go_callVI C (st := [.int r1]) [.int (xs (x3 + 1).toNatClampNeg)] (m_X5_cut E _ hok 44 (xs (x3 + 1).toNatClampNeg) σ1) (fun _ h => fh_ob_ok h) rfl rfl ⟨q_1097, q_1098, q_1099, q_6, q_1100⟩ pd_X5_cut rfl ⟨⟨(Nat.le_of_ble_eq_true rfl), (Nat.le_of_ble_eq_true rfl)⟩, rfl, rfl⟩ (Nat.le_of_ble_eq_true rfl) dL_law_1052 (fun r3 σ2 => ?_)
  exact go_icmp_eq C dL_law_1055 (by decide) (fun _ => K σ2) (fun _ => go_none)
set_option maxRecDepth 100000 in
theorem lw_g30 (C : fh_Cx E (lw_M p l e s m b below meth c cl sl Z) code 4 RL ret room_1) (hok : fh_ok E) (hX : va_X b L xs s s.heap) (hbl : b < s.heap.size) (hbA : ¬ fh_A E b) {x3 : Int32} (h1 : vp_in (x3 + 1) L) (h2 : vp_in (x3 + 2) L) (h3 : vp_in (x3 + 3) L) (h4 : vp_in (x3 + 4) L) (h5 : vp_in (x3 + 5) L) {σ : fh_S} {X2 : fh_S → Option (Unit × fh_S)} (K : ∀ σ2, fh_Go E (lw_M p l e s m b below meth c cl sl Z) 4 fh_vU 1545 (lw_lv E b x3) [] σ2 (X2 σ2)) : fh_Go E (lw_M p l e s m b below meth c cl sl Z) 4 fh_vU 1060 (lw_lv E b x3) [] σ (fh_cb (f_X4_frosts 0 (xs (x3 + 1).toNatClampNeg) σ) fun r1 σ1 => fh_cb (f_X5_frosts 44 (xs (x3 + 1).toNatClampNeg) σ1) fun r3 σ2 => if r1 = r3 then X2 σ2 else none) := by
  refine go_aload_n C 2 rfl rfl dL_law_1060 ?_
  refine go_aload_n C 3 rfl rfl dL_law_1061 ?_
  refine go_iload_n C 0 rfl rfl dL_law_1062 ?_
  refine go_iconst C 1 dL_law_1063 (by decide) ?_
  refine go_iadd C dL_law_1064 ?_
  refine lw_sld C hX hbl hbA h1 dL_law_1065 ?_
  refine go_callVI C (st := []) [.int (xs (x3 + 1).toNatClampNeg)] (m_X4_frosts E _ hok 0 (xs (x3 + 1).toNatClampNeg) σ) (fun _ h => fh_ob_ok h) rfl rfl ⟨q_497, q_498, q_499, q_1, q_500⟩ pd_X4_frosts rfl ⟨⟨(Nat.le_of_ble_eq_true rfl), (Nat.le_of_ble_eq_true rfl)⟩, rfl, rfl⟩ (Nat.le_of_ble_eq_true rfl) dL_law_1066 (fun r1 σ1 => ?_)
  refine go_aload_n C 1 rfl rfl dL_law_1069 ?_
  refine go_aload_n C 3 rfl rfl dL_law_1070 ?_
  refine go_iload_n C 0 rfl rfl dL_law_1071 ?_
  refine go_iconst C 1 dL_law_1072 (by decide) ?_
  refine go_iadd C dL_law_1073 ?_
  refine lw_sld C hX hbl hbA h1 dL_law_1074 ?_
  refine go_callVI C (st := [.int r1]) [.int (xs (x3 + 1).toNatClampNeg)] (m_X5_frosts E _ hok 44 (xs (x3 + 1).toNatClampNeg) σ1) (fun _ h => fh_ob_ok h) rfl rfl ⟨q_1101, q_1102, q_1103, q_6, q_1104⟩ pd_X5_frosts rfl ⟨⟨(Nat.le_of_ble_eq_true rfl), (Nat.le_of_ble_eq_true rfl)⟩, rfl, rfl⟩ (Nat.le_of_ble_eq_true rfl) dL_law_1075 (fun r3 σ2 => ?_)
  exact go_icmp_eq C dL_law_1078 (by decide) (fun _ => K σ2) (fun _ => go_none)
set_option maxRecDepth 100000 in
theorem lw_g31 (C : fh_Cx E (lw_M p l e s m b below meth c cl sl Z) code 4 RL ret room_1) (hok : fh_ok E) (hX : va_X b L xs s s.heap) (hbl : b < s.heap.size) (hbA : ¬ fh_A E b) {x3 : Int32} (h1 : vp_in (x3 + 1) L) (h2 : vp_in (x3 + 2) L) (h3 : vp_in (x3 + 3) L) (h4 : vp_in (x3 + 4) L) (h5 : vp_in (x3 + 5) L) {σ : fh_S} {X2 : fh_S → Option (Unit × fh_S)} (K : ∀ σ2, fh_Go E (lw_M p l e s m b below meth c cl sl Z) 4 fh_vU 1545 (lw_lv E b x3) [] σ2 (X2 σ2)) : fh_Go E (lw_M p l e s m b below meth c cl sl Z) 4 fh_vU 1083 (lw_lv E b x3) [] σ (fh_cb (f_X4_odds 0 (xs (x3 + 1).toNatClampNeg) (xs (x3 + 2).toNatClampNeg) σ) fun r1 σ1 => fh_cb (f_X5_odds 44 (xs (x3 + 1).toNatClampNeg) (xs (x3 + 2).toNatClampNeg) σ1) fun r3 σ2 => if lg_cmp r1 r3 = 0 then X2 σ2 else none) := by
  refine go_aload_n C 2 rfl rfl dL_law_1083 ?_
  refine go_aload_n C 3 rfl rfl dL_law_1084 ?_
  refine go_iload_n C 0 rfl rfl dL_law_1085 ?_
  refine go_iconst C 1 dL_law_1086 (by decide) ?_
  refine go_iadd C dL_law_1087 ?_
  refine lw_sld C hX hbl hbA h1 dL_law_1088 ?_
  refine go_aload_n C 3 rfl rfl dL_law_1089 ?_
  refine go_iload_n C 0 rfl rfl dL_law_1090 ?_
  refine go_iconst C 2 dL_law_1091 (by decide) ?_
  refine go_iadd C dL_law_1092 ?_
  refine lw_sld C hX hbl hbA h2 dL_law_1093 ?_
  refine go_callV C (vw' := fh_vL) (st := []) [.int (xs (x3 + 1).toNatClampNeg), .int (xs (x3 + 2).toNatClampNeg)] (m_X4_odds E _ hok 0 (xs (x3 + 1).toNatClampNeg) (xs (x3 + 2).toNatClampNeg) σ) (fun _ h => fh_ob_ok h) rfl rfl ⟨q_506, q_507, q_508, q_1, q_509⟩ pd_X4_odds rfl ⟨⟨(Nat.le_of_ble_eq_true rfl), (Nat.le_of_ble_eq_true rfl)⟩, rfl, rfl⟩ (Nat.le_of_ble_eq_true rfl) dL_law_1094 (fun r1 σ1 => ?_)
  refine go_aload_n C 1 rfl rfl dL_law_1097 ?_
  refine go_aload_n C 3 rfl rfl dL_law_1098 ?_
  refine go_iload_n C 0 rfl rfl dL_law_1099 ?_
  refine go_iconst C 1 dL_law_1100 (by decide) ?_
  refine go_iadd C dL_law_1101 ?_
  refine lw_sld C hX hbl hbA h1 dL_law_1102 ?_
  refine go_aload_n C 3 rfl rfl dL_law_1103 ?_
  refine go_iload_n C 0 rfl rfl dL_law_1104 ?_
  refine go_iconst C 2 dL_law_1105 (by decide) ?_
  refine go_iadd C dL_law_1106 ?_
  refine lw_sld C hX hbl hbA h2 dL_law_1107 ?_
  refine go_callV C (vw' := fh_vL) (st := [.long r1]) [.int (xs (x3 + 1).toNatClampNeg), .int (xs (x3 + 2).toNatClampNeg)] (m_X5_odds E _ hok 44 (xs (x3 + 1).toNatClampNeg) (xs (x3 + 2).toNatClampNeg) σ1) (fun _ h => fh_ob_ok h) rfl rfl ⟨q_1110, q_1111, q_1112, q_6, q_1113⟩ pd_X5_odds rfl ⟨⟨(Nat.le_of_ble_eq_true rfl), (Nat.le_of_ble_eq_true rfl)⟩, rfl, rfl⟩ (Nat.le_of_ble_eq_true rfl) dL_law_1108 (fun r3 σ2 => ?_)
  refine go_lcmp C dL_law_1111 ?_
  exact go_if_eq C dL_law_1112 (by decide) (fun _ => K σ2) (fun _ => go_none)
set_option maxRecDepth 100000 in
theorem lw_g32 (C : fh_Cx E (lw_M p l e s m b below meth c cl sl Z) code 4 RL ret room_1) (hok : fh_ok E) (hX : va_X b L xs s s.heap) (hbl : b < s.heap.size) (hbA : ¬ fh_A E b) {x3 : Int32} (h1 : vp_in (x3 + 1) L) (h2 : vp_in (x3 + 2) L) (h3 : vp_in (x3 + 3) L) (h4 : vp_in (x3 + 4) L) (h5 : vp_in (x3 + 5) L) {σ : fh_S} {X2 : fh_S → Option (Unit × fh_S)} (K : ∀ σ2, fh_Go E (lw_M p l e s m b below meth c cl sl Z) 4 fh_vU 1545 (lw_lv E b x3) [] σ2 (X2 σ2)) : fh_Go E (lw_M p l e s m b below meth c cl sl Z) 4 fh_vU 1117 (lw_lv E b x3) [] σ (fh_cb (f_X4_seed 0 (xs (x3 + 1).toNatClampNeg) σ) fun r1 σ1 => fh_cb (f_X5_seed 44 (xs (x3 + 1).toNatClampNeg) σ1) fun r3 σ2 => if r1 = r3 then X2 σ2 else none) := by
  refine go_aload_n C 2 rfl rfl dL_law_1117 ?_
  refine go_aload_n C 3 rfl rfl dL_law_1118 ?_
  refine go_iload_n C 0 rfl rfl dL_law_1119 ?_
  refine go_iconst C 1 dL_law_1120 (by decide) ?_
  refine go_iadd C dL_law_1121 ?_
  refine lw_sld C hX hbl hbA h1 dL_law_1122 ?_
  refine go_callVI C (st := []) [.int (xs (x3 + 1).toNatClampNeg)] (m_X4_seed E _ hok 0 (xs (x3 + 1).toNatClampNeg) σ) (fun _ h => fh_ob_ok h) rfl rfl ⟨q_510, q_511, q_512, q_1, q_513⟩ pd_X4_seed rfl ⟨⟨(Nat.le_of_ble_eq_true rfl), (Nat.le_of_ble_eq_true rfl)⟩, rfl, rfl⟩ (Nat.le_of_ble_eq_true rfl) dL_law_1123 (fun r1 σ1 => ?_)
  refine go_aload_n C 1 rfl rfl dL_law_1126 ?_
  refine go_aload_n C 3 rfl rfl dL_law_1127 ?_
  refine go_iload_n C 0 rfl rfl dL_law_1128 ?_
  refine go_iconst C 1 dL_law_1129 (by decide) ?_
  refine go_iadd C dL_law_1130 ?_
  refine lw_sld C hX hbl hbA h1 dL_law_1131 ?_
  refine go_callVI C (st := [.int r1]) [.int (xs (x3 + 1).toNatClampNeg)] (m_X5_seed E _ hok 44 (xs (x3 + 1).toNatClampNeg) σ1) (fun _ h => fh_ob_ok h) rfl rfl ⟨q_1114, q_1115, q_1116, q_6, q_1117⟩ pd_X5_seed rfl ⟨⟨(Nat.le_of_ble_eq_true rfl), (Nat.le_of_ble_eq_true rfl)⟩, rfl, rfl⟩ (Nat.le_of_ble_eq_true rfl) dL_law_1132 (fun r3 σ2 => ?_)
  exact go_icmp_eq C dL_law_1135 (by decide) (fun _ => K σ2) (fun _ => go_none)
set_option maxRecDepth 100000 in
theorem lw_g33 (C : fh_Cx E (lw_M p l e s m b below meth c cl sl Z) code 4 RL ret room_1) (hok : fh_ok E) (hX : va_X b L xs s s.heap) (hbl : b < s.heap.size) (hbA : ¬ fh_A E b) {x3 : Int32} (h1 : vp_in (x3 + 1) L) (h2 : vp_in (x3 + 2) L) (h3 : vp_in (x3 + 3) L) (h4 : vp_in (x3 + 4) L) (h5 : vp_in (x3 + 5) L) {σ : fh_S} {X2 : fh_S → Option (Unit × fh_S)} (K : ∀ σ2, fh_Go E (lw_M p l e s m b below meth c cl sl Z) 4 fh_vU 1545 (lw_lv E b x3) [] σ2 (X2 σ2)) : fh_Go E (lw_M p l e s m b below meth c cl sl Z) 4 fh_vU 1140 (lw_lv E b x3) [] σ (fh_cb (f_X4_feed 0 (xs (x3 + 1).toNatClampNeg) (xs (x3 + 2).toNatClampNeg) σ) fun r1 σ1 => fh_cb (f_X5_feed 44 (xs (x3 + 1).toNatClampNeg) (xs (x3 + 2).toNatClampNeg) σ1) fun r3 σ2 => if r1 = r3 then X2 σ2 else none) := by
  refine go_aload_n C 2 rfl rfl dL_law_1140 ?_
  refine go_aload_n C 3 rfl rfl dL_law_1141 ?_
  refine go_iload_n C 0 rfl rfl dL_law_1142 ?_
  refine go_iconst C 1 dL_law_1143 (by decide) ?_
  refine go_iadd C dL_law_1144 ?_
  refine lw_sld C hX hbl hbA h1 dL_law_1145 ?_
  refine go_aload_n C 3 rfl rfl dL_law_1146 ?_
  refine go_iload_n C 0 rfl rfl dL_law_1147 ?_
  refine go_iconst C 2 dL_law_1148 (by decide) ?_
  refine go_iadd C dL_law_1149 ?_
  refine lw_sld C hX hbl hbA h2 dL_law_1150 ?_
  refine go_callVI C (st := []) [.int (xs (x3 + 1).toNatClampNeg), .int (xs (x3 + 2).toNatClampNeg)] (m_X4_feed E _ hok 0 (xs (x3 + 1).toNatClampNeg) (xs (x3 + 2).toNatClampNeg) σ) (fun _ h => fh_ob_ok h) rfl rfl ⟨q_514, q_515, q_516, q_1, q_517⟩ pd_X4_feed rfl ⟨⟨(Nat.le_of_ble_eq_true rfl), (Nat.le_of_ble_eq_true rfl)⟩, rfl, rfl⟩ (Nat.le_of_ble_eq_true rfl) dL_law_1151 (fun r1 σ1 => ?_)
  refine go_aload_n C 1 rfl rfl dL_law_1154 ?_
  refine go_aload_n C 3 rfl rfl dL_law_1155 ?_
  refine go_iload_n C 0 rfl rfl dL_law_1156 ?_
  refine go_iconst C 1 dL_law_1157 (by decide) ?_
  refine go_iadd C dL_law_1158 ?_
  refine lw_sld C hX hbl hbA h1 dL_law_1159 ?_
  refine go_aload_n C 3 rfl rfl dL_law_1160 ?_
  refine go_iload_n C 0 rfl rfl dL_law_1161 ?_
  refine go_iconst C 2 dL_law_1162 (by decide) ?_
  refine go_iadd C dL_law_1163 ?_
  refine lw_sld C hX hbl hbA h2 dL_law_1164 ?_
  refine go_callVI C (st := [.int r1]) [.int (xs (x3 + 1).toNatClampNeg), .int (xs (x3 + 2).toNatClampNeg)] (m_X5_feed E _ hok 44 (xs (x3 + 1).toNatClampNeg) (xs (x3 + 2).toNatClampNeg) σ1) (fun _ h => fh_ob_ok h) rfl rfl ⟨q_1118, q_1119, q_1120, q_6, q_1121⟩ pd_X5_feed rfl ⟨⟨(Nat.le_of_ble_eq_true rfl), (Nat.le_of_ble_eq_true rfl)⟩, rfl, rfl⟩ (Nat.le_of_ble_eq_true rfl) dL_law_1165 (fun r3 σ2 => ?_)
  exact go_icmp_eq C dL_law_1168 (by decide) (fun _ => K σ2) (fun _ => go_none)
set_option maxRecDepth 100000 in
theorem lw_g34 (C : fh_Cx E (lw_M p l e s m b below meth c cl sl Z) code 4 RL ret room_1) (hok : fh_ok E) (hX : va_X b L xs s s.heap) (hbl : b < s.heap.size) (hbA : ¬ fh_A E b) {x3 : Int32} (h1 : vp_in (x3 + 1) L) (h2 : vp_in (x3 + 2) L) (h3 : vp_in (x3 + 3) L) (h4 : vp_in (x3 + 4) L) (h5 : vp_in (x3 + 5) L) {σ : fh_S} {X2 : fh_S → Option (Unit × fh_S)} (K : ∀ σ2, fh_Go E (lw_M p l e s m b below meth c cl sl Z) 4 fh_vU 1545 (lw_lv E b x3) [] σ2 (X2 σ2)) : fh_Go E (lw_M p l e s m b below meth c cl sl Z) 4 fh_vU 1173 (lw_lv E b x3) [] σ (fh_cb (f_X4_wipe 0  σ) fun r1 σ1 => fh_cb (f_X5_wipe 44  σ1) fun r3 σ2 => if r1 = r3 then X2 σ2 else none) := by
  refine go_aload_n C 2 rfl rfl dL_law_1173 ?_
  refine go_callVI C (st := []) [] (m_X4_wipe E _ hok 0 σ) (fun _ h => fh_ob_ok h) rfl rfl ⟨q_522, q_523, q_524, q_1, q_525⟩ pd_X4_wipe rfl ⟨⟨(Nat.le_of_ble_eq_true rfl), (Nat.le_of_ble_eq_true rfl)⟩, rfl, rfl⟩ (Nat.le_of_ble_eq_true rfl) dL_law_1174 (fun r1 σ1 => ?_)
  refine go_aload_n C 1 rfl rfl dL_law_1177 ?_
  refine go_callVI C (st := [.int r1]) [] (m_X5_wipe E _ hok 44 σ1) (fun _ h => fh_ob_ok h) rfl rfl ⟨q_1122, q_1123, q_1124, q_6, q_1125⟩ pd_X5_wipe rfl ⟨⟨(Nat.le_of_ble_eq_true rfl), (Nat.le_of_ble_eq_true rfl)⟩, rfl, rfl⟩ (Nat.le_of_ble_eq_true rfl) dL_law_1178 (fun r3 σ2 => ?_)
  exact go_icmp_eq C dL_law_1181 (by decide) (fun _ => K σ2) (fun _ => go_none)
set_option maxRecDepth 100000 in
theorem lw_g35 (C : fh_Cx E (lw_M p l e s m b below meth c cl sl Z) code 4 RL ret room_1) (hok : fh_ok E) (hX : va_X b L xs s s.heap) (hbl : b < s.heap.size) (hbA : ¬ fh_A E b) {x3 : Int32} (h1 : vp_in (x3 + 1) L) (h2 : vp_in (x3 + 2) L) (h3 : vp_in (x3 + 3) L) (h4 : vp_in (x3 + 4) L) (h5 : vp_in (x3 + 5) L) {σ : fh_S} {X2 : fh_S → Option (Unit × fh_S)} (K : ∀ σ2, fh_Go E (lw_M p l e s m b below meth c cl sl Z) 4 fh_vU 1545 (lw_lv E b x3) [] σ2 (X2 σ2)) : fh_Go E (lw_M p l e s m b below meth c cl sl Z) 4 fh_vU 1186 (lw_lv E b x3) [] σ (fh_cb (f_X4_text 0  σ) fun r1 σ1 => fh_cb (f_X5_text 44  σ1) fun r3 σ2 => if r1 = r3 then X2 σ2 else none) := by
  refine go_aload_n C 2 rfl rfl dL_law_1186 ?_
  refine go_callVI C (st := []) [] (m_X4_text E _ hok 0 σ) (fun _ h => fh_ob_ok h) rfl rfl ⟨q_526, q_527, q_528, q_1, q_529⟩ pd_X4_text rfl ⟨⟨(Nat.le_of_ble_eq_true rfl), (Nat.le_of_ble_eq_true rfl)⟩, rfl, rfl⟩ (Nat.le_of_ble_eq_true rfl) dL_law_1187 (fun r1 σ1 => ?_)
  refine go_aload_n C 1 rfl rfl dL_law_1190 ?_
  refine go_callVI C (st := [.int r1]) [] (m_X5_text E _ hok 44 σ1) (fun _ h => fh_ob_ok h) rfl rfl ⟨q_1126, q_1127, q_1128, q_6, q_1129⟩ pd_X5_text rfl ⟨⟨(Nat.le_of_ble_eq_true rfl), (Nat.le_of_ble_eq_true rfl)⟩, rfl, rfl⟩ (Nat.le_of_ble_eq_true rfl) dL_law_1191 (fun r3 σ2 => ?_)
  exact go_icmp_eq C dL_law_1194 (by decide) (fun _ => K σ2) (fun _ => go_none)
set_option maxRecDepth 100000 in
theorem lw_g36 (C : fh_Cx E (lw_M p l e s m b below meth c cl sl Z) code 4 RL ret room_1) (hok : fh_ok E) (hX : va_X b L xs s s.heap) (hbl : b < s.heap.size) (hbA : ¬ fh_A E b) {x3 : Int32} (h1 : vp_in (x3 + 1) L) (h2 : vp_in (x3 + 2) L) (h3 : vp_in (x3 + 3) L) (h4 : vp_in (x3 + 4) L) (h5 : vp_in (x3 + 5) L) {σ : fh_S} {X2 : fh_S → Option (Unit × fh_S)} (K : ∀ σ2, fh_Go E (lw_M p l e s m b below meth c cl sl Z) 4 fh_vU 1545 (lw_lv E b x3) [] σ2 (X2 σ2)) : fh_Go E (lw_M p l e s m b below meth c cl sl Z) 4 fh_vU 1199 (lw_lv E b x3) [] σ (fh_cb (f_X4_hold 0 (xs (x3 + 1).toNatClampNeg) (xs (x3 + 2).toNatClampNeg) σ) fun r1 σ1 => fh_cb (f_X5_hold 44 (xs (x3 + 1).toNatClampNeg) (xs (x3 + 2).toNatClampNeg) σ1) fun r3 σ2 => if r1 = r3 then X2 σ2 else none) := by
  refine go_aload_n C 2 rfl rfl dL_law_1199 ?_
  refine go_aload_n C 3 rfl rfl dL_law_1200 ?_
  refine go_iload_n C 0 rfl rfl dL_law_1201 ?_
  refine go_iconst C 1 dL_law_1202 (by decide) ?_
  refine go_iadd C dL_law_1203 ?_
  refine lw_sld C hX hbl hbA h1 dL_law_1204 ?_
  refine go_aload_n C 3 rfl rfl dL_law_1205 ?_
  refine go_iload_n C 0 rfl rfl dL_law_1206 ?_
  refine go_iconst C 2 dL_law_1207 (by decide) ?_
  refine go_iadd C dL_law_1208 ?_
  refine lw_sld C hX hbl hbA h2 dL_law_1209 ?_
  refine go_callVI C (st := []) [.int (xs (x3 + 1).toNatClampNeg), .int (xs (x3 + 2).toNatClampNeg)] (m_X4_hold E _ hok 0 (xs (x3 + 1).toNatClampNeg) (xs (x3 + 2).toNatClampNeg) σ) (fun _ h => fh_ob_ok h) rfl rfl ⟨q_658, q_659, q_660, q_1, q_661⟩ pd_X4_hold rfl ⟨⟨(Nat.le_of_ble_eq_true rfl), (Nat.le_of_ble_eq_true rfl)⟩, rfl, rfl⟩ (Nat.le_of_ble_eq_true rfl) dL_law_1210 (fun r1 σ1 => ?_)
  refine go_aload_n C 1 rfl rfl dL_law_1213 ?_
  refine go_aload_n C 3 rfl rfl dL_law_1214 ?_
  refine go_iload_n C 0 rfl rfl dL_law_1215 ?_
  refine go_iconst C 1 dL_law_1216 (by decide) ?_
  refine go_iadd C dL_law_1217 ?_
  refine lw_sld C hX hbl hbA h1 dL_law_1218 ?_
  refine go_aload_n C 3 rfl rfl dL_law_1219 ?_
  refine go_iload_n C 0 rfl rfl dL_law_1220 ?_
  refine go_iconst C 2 dL_law_1221 (by decide) ?_
  refine go_iadd C dL_law_1222 ?_
  refine lw_sld C hX hbl hbA h2 dL_law_1223 ?_
  refine go_callVI C (st := [.int r1]) [.int (xs (x3 + 1).toNatClampNeg), .int (xs (x3 + 2).toNatClampNeg)] (m_X5_hold E _ hok 44 (xs (x3 + 1).toNatClampNeg) (xs (x3 + 2).toNatClampNeg) σ1) (fun _ h => fh_ob_ok h) rfl rfl ⟨q_1182, q_1183, q_1184, q_6, q_1185⟩ pd_X5_hold rfl ⟨⟨(Nat.le_of_ble_eq_true rfl), (Nat.le_of_ble_eq_true rfl)⟩, rfl, rfl⟩ (Nat.le_of_ble_eq_true rfl) dL_law_1224 (fun r3 σ2 => ?_)
  exact go_icmp_eq C dL_law_1227 (by decide) (fun _ => K σ2) (fun _ => go_none)
set_option maxRecDepth 100000 in
theorem lw_g37 (C : fh_Cx E (lw_M p l e s m b below meth c cl sl Z) code 4 RL ret room_1) (hok : fh_ok E) (hX : va_X b L xs s s.heap) (hbl : b < s.heap.size) (hbA : ¬ fh_A E b) {x3 : Int32} (h1 : vp_in (x3 + 1) L) (h2 : vp_in (x3 + 2) L) (h3 : vp_in (x3 + 3) L) (h4 : vp_in (x3 + 4) L) (h5 : vp_in (x3 + 5) L) {σ : fh_S} {X2 : fh_S → Option (Unit × fh_S)} (K : ∀ σ2, fh_Go E (lw_M p l e s m b below meth c cl sl Z) 4 fh_vU 1545 (lw_lv E b x3) [] σ2 (X2 σ2)) : fh_Go E (lw_M p l e s m b below meth c cl sl Z) 4 fh_vU 1232 (lw_lv E b x3) [] σ (fh_cb (f_X4_as 0 (xs (x3 + 1).toNatClampNeg) (xs (x3 + 2).toNatClampNeg) σ) fun r1 σ1 => fh_cb (f_X5_as 44 (xs (x3 + 1).toNatClampNeg) (xs (x3 + 2).toNatClampNeg) σ1) fun r3 σ2 => if r1 = r3 then X2 σ2 else none) := by
  refine go_aload_n C 2 rfl rfl dL_law_1232 ?_
  refine go_aload_n C 3 rfl rfl dL_law_1233 ?_
  refine go_iload_n C 0 rfl rfl dL_law_1234 ?_
  refine go_iconst C 1 dL_law_1235 (by decide) ?_
  refine go_iadd C dL_law_1236 ?_
  refine lw_sld C hX hbl hbA h1 dL_law_1237 ?_
  refine go_aload_n C 3 rfl rfl dL_law_1238 ?_
  refine go_iload_n C 0 rfl rfl dL_law_1239 ?_
  refine go_iconst C 2 dL_law_1240 (by decide) ?_
  refine go_iadd C dL_law_1241 ?_
  refine lw_sld C hX hbl hbA h2 dL_law_1242 ?_
  refine go_callVI C (st := []) [.int (xs (x3 + 1).toNatClampNeg), .int (xs (x3 + 2).toNatClampNeg)] (m_X4_as E _ hok 0 (xs (x3 + 1).toNatClampNeg) (xs (x3 + 2).toNatClampNeg) σ) (fun _ h => fh_ob_ok h) rfl rfl ⟨q_665, q_666, q_667, q_1, q_668⟩ pd_X4_as rfl ⟨⟨(Nat.le_of_ble_eq_true rfl), (Nat.le_of_ble_eq_true rfl)⟩, rfl, rfl⟩ (Nat.le_of_ble_eq_true rfl) dL_law_1243 (fun r1 σ1 => ?_)
  refine go_aload_n C 1 rfl rfl dL_law_1246 ?_
  refine go_aload_n C 3 rfl rfl dL_law_1247 ?_
  refine go_iload_n C 0 rfl rfl dL_law_1248 ?_
  refine go_iconst C 1 dL_law_1249 (by decide) ?_
  refine go_iadd C dL_law_1250 ?_
  refine lw_sld C hX hbl hbA h1 dL_law_1251 ?_
  refine go_aload_n C 3 rfl rfl dL_law_1252 ?_
  refine go_iload_n C 0 rfl rfl dL_law_1253 ?_
  refine go_iconst C 2 dL_law_1254 (by decide) ?_
  refine go_iadd C dL_law_1255 ?_
  refine lw_sld C hX hbl hbA h2 dL_law_1256 ?_
  refine go_callVI C (st := [.int r1]) [.int (xs (x3 + 1).toNatClampNeg), .int (xs (x3 + 2).toNatClampNeg)] (m_X5_as E _ hok 44 (xs (x3 + 1).toNatClampNeg) (xs (x3 + 2).toNatClampNeg) σ1) (fun _ h => fh_ob_ok h) rfl rfl ⟨q_1189, q_1190, q_1191, q_6, q_1192⟩ pd_X5_as rfl ⟨⟨(Nat.le_of_ble_eq_true rfl), (Nat.le_of_ble_eq_true rfl)⟩, rfl, rfl⟩ (Nat.le_of_ble_eq_true rfl) dL_law_1257 (fun r3 σ2 => ?_)
  exact go_icmp_eq C dL_law_1260 (by decide) (fun _ => K σ2) (fun _ => go_none)
set_option maxRecDepth 100000 in
theorem lw_g38 (C : fh_Cx E (lw_M p l e s m b below meth c cl sl Z) code 4 RL ret room_1) (hok : fh_ok E) (hX : va_X b L xs s s.heap) (hbl : b < s.heap.size) (hbA : ¬ fh_A E b) {x3 : Int32} (h1 : vp_in (x3 + 1) L) (h2 : vp_in (x3 + 2) L) (h3 : vp_in (x3 + 3) L) (h4 : vp_in (x3 + 4) L) (h5 : vp_in (x3 + 5) L) {σ : fh_S} {X2 : fh_S → Option (Unit × fh_S)} (K : ∀ σ2, fh_Go E (lw_M p l e s m b below meth c cl sl Z) 4 fh_vU 1545 (lw_lv E b x3) [] σ2 (X2 σ2)) : fh_Go E (lw_M p l e s m b below meth c cl sl Z) 4 fh_vU 1265 (lw_lv E b x3) [] σ (fh_cb (f_X4_sheet 0 (xs (x3 + 1).toNatClampNeg) (xs (x3 + 2).toNatClampNeg) (xs (x3 + 3).toNatClampNeg) σ) fun r1 σ1 => fh_cb (f_X5_sheet 44 (xs (x3 + 1).toNatClampNeg) (xs (x3 + 2).toNatClampNeg) (xs (x3 + 3).toNatClampNeg) σ1) fun r3 σ2 => if r1 = r3 then X2 σ2 else none) := by
  refine go_aload_n C 2 rfl rfl dL_law_1265 ?_
  refine go_aload_n C 3 rfl rfl dL_law_1266 ?_
  refine go_iload_n C 0 rfl rfl dL_law_1267 ?_
  refine go_iconst C 1 dL_law_1268 (by decide) ?_
  refine go_iadd C dL_law_1269 ?_
  refine lw_sld C hX hbl hbA h1 dL_law_1270 ?_
  refine go_aload_n C 3 rfl rfl dL_law_1271 ?_
  refine go_iload_n C 0 rfl rfl dL_law_1272 ?_
  refine go_iconst C 2 dL_law_1273 (by decide) ?_
  refine go_iadd C dL_law_1274 ?_
  refine lw_sld C hX hbl hbA h2 dL_law_1275 ?_
  refine go_aload_n C 3 rfl rfl dL_law_1276 ?_
  refine go_iload_n C 0 rfl rfl dL_law_1277 ?_
  refine go_iconst C 3 dL_law_1278 (by decide) ?_
  refine go_iadd C dL_law_1279 ?_
  refine lw_sld C hX hbl hbA h3 dL_law_1280 ?_
  refine go_callVI C (st := []) [.int (xs (x3 + 1).toNatClampNeg), .int (xs (x3 + 2).toNatClampNeg), .int (xs (x3 + 3).toNatClampNeg)] (m_X4_sheet E _ hok 0 (xs (x3 + 1).toNatClampNeg) (xs (x3 + 2).toNatClampNeg) (xs (x3 + 3).toNatClampNeg) σ) (fun _ h => fh_ob_ok h) rfl rfl ⟨q_673, q_674, q_675, q_1, q_676⟩ pd_X4_sheet rfl ⟨⟨(Nat.le_of_ble_eq_true rfl), (Nat.le_of_ble_eq_true rfl)⟩, rfl, rfl⟩ (Nat.le_of_ble_eq_true rfl) dL_law_1281 (fun r1 σ1 => ?_)
  refine go_aload_n C 1 rfl rfl dL_law_1284 ?_
  refine go_aload_n C 3 rfl rfl dL_law_1285 ?_
  refine go_iload_n C 0 rfl rfl dL_law_1286 ?_
  refine go_iconst C 1 dL_law_1287 (by decide) ?_
  refine go_iadd C dL_law_1288 ?_
  refine lw_sld C hX hbl hbA h1 dL_law_1289 ?_
  refine go_aload_n C 3 rfl rfl dL_law_1290 ?_
  refine go_iload_n C 0 rfl rfl dL_law_1291 ?_
  refine go_iconst C 2 dL_law_1292 (by decide) ?_
  refine go_iadd C dL_law_1293 ?_
  refine lw_sld C hX hbl hbA h2 dL_law_1294 ?_
  refine go_aload_n C 3 rfl rfl dL_law_1295 ?_
  refine go_iload_n C 0 rfl rfl dL_law_1296 ?_
  refine go_iconst C 3 dL_law_1297 (by decide) ?_
  refine go_iadd C dL_law_1298 ?_
  refine lw_sld C hX hbl hbA h3 dL_law_1299 ?_
  refine go_callVI C (st := [.int r1]) [.int (xs (x3 + 1).toNatClampNeg), .int (xs (x3 + 2).toNatClampNeg), .int (xs (x3 + 3).toNatClampNeg)] (m_X5_sheet E _ hok 44 (xs (x3 + 1).toNatClampNeg) (xs (x3 + 2).toNatClampNeg) (xs (x3 + 3).toNatClampNeg) σ1) (fun _ h => fh_ob_ok h) rfl rfl ⟨q_1200, q_1201, q_1202, q_6, q_1203⟩ pd_X5_sheet rfl ⟨⟨(Nat.le_of_ble_eq_true rfl), (Nat.le_of_ble_eq_true rfl)⟩, rfl, rfl⟩ (Nat.le_of_ble_eq_true rfl) dL_law_1300 (fun r3 σ2 => ?_)
  exact go_icmp_eq C dL_law_1303 (by decide) (fun _ => K σ2) (fun _ => go_none)
set_option maxRecDepth 100000 in
theorem lw_g39 (C : fh_Cx E (lw_M p l e s m b below meth c cl sl Z) code 4 RL ret room_1) (hok : fh_ok E) (hX : va_X b L xs s s.heap) (hbl : b < s.heap.size) (hbA : ¬ fh_A E b) {x3 : Int32} (h1 : vp_in (x3 + 1) L) (h2 : vp_in (x3 + 2) L) (h3 : vp_in (x3 + 3) L) (h4 : vp_in (x3 + 4) L) (h5 : vp_in (x3 + 5) L) {σ : fh_S} {X2 : fh_S → Option (Unit × fh_S)} (K : ∀ σ2, fh_Go E (lw_M p l e s m b below meth c cl sl Z) 4 fh_vU 1545 (lw_lv E b x3) [] σ2 (X2 σ2)) : fh_Go E (lw_M p l e s m b below meth c cl sl Z) 4 fh_vU 1308 (lw_lv E b x3) [] σ (fh_cb (f_X4_write 0 (xs (x3 + 1).toNatClampNeg) (xs (x3 + 2).toNatClampNeg) (xs (x3 + 3).toNatClampNeg) σ) fun r1 σ1 => fh_cb (f_X5_write 44 (xs (x3 + 1).toNatClampNeg) (xs (x3 + 2).toNatClampNeg) (xs (x3 + 3).toNatClampNeg) σ1) fun r3 σ2 => if r1 = r3 then X2 σ2 else none) := by
  refine go_aload_n C 2 rfl rfl dL_law_1308 ?_
  refine go_aload_n C 3 rfl rfl dL_law_1309 ?_
  refine go_iload_n C 0 rfl rfl dL_law_1310 ?_
  refine go_iconst C 1 dL_law_1311 (by decide) ?_
  refine go_iadd C dL_law_1312 ?_
  refine lw_sld C hX hbl hbA h1 dL_law_1313 ?_
  refine go_aload_n C 3 rfl rfl dL_law_1314 ?_
  refine go_iload_n C 0 rfl rfl dL_law_1315 ?_
  refine go_iconst C 2 dL_law_1316 (by decide) ?_
  refine go_iadd C dL_law_1317 ?_
  refine lw_sld C hX hbl hbA h2 dL_law_1318 ?_
  refine go_aload_n C 3 rfl rfl dL_law_1319 ?_
  refine go_iload_n C 0 rfl rfl dL_law_1320 ?_
  refine go_iconst C 3 dL_law_1321 (by decide) ?_
  refine go_iadd C dL_law_1322 ?_
  refine lw_sld C hX hbl hbA h3 dL_law_1323 ?_
  refine go_callVI C (st := []) [.int (xs (x3 + 1).toNatClampNeg), .int (xs (x3 + 2).toNatClampNeg), .int (xs (x3 + 3).toNatClampNeg)] (m_X4_write E _ hok 0 (xs (x3 + 1).toNatClampNeg) (xs (x3 + 2).toNatClampNeg) (xs (x3 + 3).toNatClampNeg) σ) (fun _ h => fh_ob_ok h) rfl rfl ⟨q_682, q_683, q_684, q_1, q_685⟩ pd_X4_write rfl ⟨⟨(Nat.le_of_ble_eq_true rfl), (Nat.le_of_ble_eq_true rfl)⟩, rfl, rfl⟩ (Nat.le_of_ble_eq_true rfl) dL_law_1324 (fun r1 σ1 => ?_)
  refine go_aload_n C 1 rfl rfl dL_law_1327 ?_
  refine go_aload_n C 3 rfl rfl dL_law_1328 ?_
  refine go_iload_n C 0 rfl rfl dL_law_1329 ?_
  refine go_iconst C 1 dL_law_1330 (by decide) ?_
  refine go_iadd C dL_law_1331 ?_
  refine lw_sld C hX hbl hbA h1 dL_law_1332 ?_
  refine go_aload_n C 3 rfl rfl dL_law_1333 ?_
  refine go_iload_n C 0 rfl rfl dL_law_1334 ?_
  refine go_iconst C 2 dL_law_1335 (by decide) ?_
  refine go_iadd C dL_law_1336 ?_
  refine lw_sld C hX hbl hbA h2 dL_law_1337 ?_
  refine go_aload_n C 3 rfl rfl dL_law_1338 ?_
  refine go_iload_n C 0 rfl rfl dL_law_1339 ?_
  refine go_iconst C 3 dL_law_1340 (by decide) ?_
  refine go_iadd C dL_law_1341 ?_
  refine lw_sld C hX hbl hbA h3 dL_law_1342 ?_
  refine go_callVI C (st := [.int r1]) [.int (xs (x3 + 1).toNatClampNeg), .int (xs (x3 + 2).toNatClampNeg), .int (xs (x3 + 3).toNatClampNeg)] (m_X5_write E _ hok 44 (xs (x3 + 1).toNatClampNeg) (xs (x3 + 2).toNatClampNeg) (xs (x3 + 3).toNatClampNeg) σ1) (fun _ h => fh_ob_ok h) rfl rfl ⟨q_1205, q_1206, q_1207, q_6, q_1208⟩ pd_X5_write rfl ⟨⟨(Nat.le_of_ble_eq_true rfl), (Nat.le_of_ble_eq_true rfl)⟩, rfl, rfl⟩ (Nat.le_of_ble_eq_true rfl) dL_law_1343 (fun r3 σ2 => ?_)
  exact go_icmp_eq C dL_law_1346 (by decide) (fun _ => K σ2) (fun _ => go_none)
set_option maxRecDepth 100000 in
theorem lw_g40 (C : fh_Cx E (lw_M p l e s m b below meth c cl sl Z) code 4 RL ret room_1) (hok : fh_ok E) (hX : va_X b L xs s s.heap) (hbl : b < s.heap.size) (hbA : ¬ fh_A E b) {x3 : Int32} (h1 : vp_in (x3 + 1) L) (h2 : vp_in (x3 + 2) L) (h3 : vp_in (x3 + 3) L) (h4 : vp_in (x3 + 4) L) (h5 : vp_in (x3 + 5) L) {σ : fh_S} {X2 : fh_S → Option (Unit × fh_S)} (K : ∀ σ2, fh_Go E (lw_M p l e s m b below meth c cl sl Z) 4 fh_vU 1545 (lw_lv E b x3) [] σ2 (X2 σ2)) : fh_Go E (lw_M p l e s m b below meth c cl sl Z) 4 fh_vU 1351 (lw_lv E b x3) [] σ (fh_cb (f_X4_copy 0 (xs (x3 + 1).toNatClampNeg) (xs (x3 + 2).toNatClampNeg) (xs (x3 + 3).toNatClampNeg) (xs (x3 + 4).toNatClampNeg) (xs (x3 + 5).toNatClampNeg) σ) fun r1 σ1 => fh_cb (f_X5_copy 44 (xs (x3 + 1).toNatClampNeg) (xs (x3 + 2).toNatClampNeg) (xs (x3 + 3).toNatClampNeg) (xs (x3 + 4).toNatClampNeg) (xs (x3 + 5).toNatClampNeg) σ1) fun r3 σ2 => if r1 = r3 then X2 σ2 else none) := by
  refine go_aload_n C 2 rfl rfl dL_law_1351 ?_
  refine go_aload_n C 3 rfl rfl dL_law_1352 ?_
  refine go_iload_n C 0 rfl rfl dL_law_1353 ?_
  refine go_iconst C 1 dL_law_1354 (by decide) ?_
  refine go_iadd C dL_law_1355 ?_
  refine lw_sld C hX hbl hbA h1 dL_law_1356 ?_
  refine go_aload_n C 3 rfl rfl dL_law_1357 ?_
  refine go_iload_n C 0 rfl rfl dL_law_1358 ?_
  refine go_iconst C 2 dL_law_1359 (by decide) ?_
  refine go_iadd C dL_law_1360 ?_
  refine lw_sld C hX hbl hbA h2 dL_law_1361 ?_
  refine go_aload_n C 3 rfl rfl dL_law_1362 ?_
  refine go_iload_n C 0 rfl rfl dL_law_1363 ?_
  refine go_iconst C 3 dL_law_1364 (by decide) ?_
  refine go_iadd C dL_law_1365 ?_
  refine lw_sld C hX hbl hbA h3 dL_law_1366 ?_
  refine go_aload_n C 3 rfl rfl dL_law_1367 ?_
  refine go_iload_n C 0 rfl rfl dL_law_1368 ?_
  refine go_iconst C 4 dL_law_1369 (by decide) ?_
  refine go_iadd C dL_law_1370 ?_
  refine lw_sld C hX hbl hbA h4 dL_law_1371 ?_
  refine go_aload_n C 3 rfl rfl dL_law_1372 ?_
  refine go_iload_n C 0 rfl rfl dL_law_1373 ?_
  refine go_iconst C 5 dL_law_1374 (by decide) ?_
  refine go_iadd C dL_law_1375 ?_
  refine lw_sld C hX hbl hbA h5 dL_law_1376 ?_
  refine go_callVI C (st := []) [.int (xs (x3 + 1).toNatClampNeg), .int (xs (x3 + 2).toNatClampNeg), .int (xs (x3 + 3).toNatClampNeg), .int (xs (x3 + 4).toNatClampNeg), .int (xs (x3 + 5).toNatClampNeg)] (m_X4_copy E _ hok 0 (xs (x3 + 1).toNatClampNeg) (xs (x3 + 2).toNatClampNeg) (xs (x3 + 3).toNatClampNeg) (xs (x3 + 4).toNatClampNeg) (xs (x3 + 5).toNatClampNeg) σ) (fun _ h => fh_ob_ok h) rfl rfl ⟨q_690, q_691, q_692, q_1, q_693⟩ pd_X4_copy rfl ⟨⟨(Nat.le_of_ble_eq_true rfl), (Nat.le_of_ble_eq_true rfl)⟩, rfl, rfl⟩ (Nat.le_of_ble_eq_true rfl) dL_law_1377 (fun r1 σ1 => ?_)
  refine go_aload_n C 1 rfl rfl dL_law_1380 ?_
  refine go_aload_n C 3 rfl rfl dL_law_1381 ?_
  refine go_iload_n C 0 rfl rfl dL_law_1382 ?_
  refine go_iconst C 1 dL_law_1383 (by decide) ?_
  refine go_iadd C dL_law_1384 ?_
  refine lw_sld C hX hbl hbA h1 dL_law_1385 ?_
  refine go_aload_n C 3 rfl rfl dL_law_1386 ?_
  refine go_iload_n C 0 rfl rfl dL_law_1387 ?_
  refine go_iconst C 2 dL_law_1388 (by decide) ?_
  refine go_iadd C dL_law_1389 ?_
  refine lw_sld C hX hbl hbA h2 dL_law_1390 ?_
  refine go_aload_n C 3 rfl rfl dL_law_1391 ?_
  refine go_iload_n C 0 rfl rfl dL_law_1392 ?_
  refine go_iconst C 3 dL_law_1393 (by decide) ?_
  refine go_iadd C dL_law_1394 ?_
  refine lw_sld C hX hbl hbA h3 dL_law_1395 ?_
  refine go_aload_n C 3 rfl rfl dL_law_1396 ?_
  refine go_iload_n C 0 rfl rfl dL_law_1397 ?_
  refine go_iconst C 4 dL_law_1398 (by decide) ?_
  refine go_iadd C dL_law_1399 ?_
  refine lw_sld C hX hbl hbA h4 dL_law_1400 ?_
  refine go_aload_n C 3 rfl rfl dL_law_1401 ?_
  refine go_iload_n C 0 rfl rfl dL_law_1402 ?_
  refine go_iconst C 5 dL_law_1403 (by decide) ?_
  refine go_iadd C dL_law_1404 ?_
  refine lw_sld C hX hbl hbA h5 dL_law_1405 ?_
  refine go_callVI C (st := [.int r1]) [.int (xs (x3 + 1).toNatClampNeg), .int (xs (x3 + 2).toNatClampNeg), .int (xs (x3 + 3).toNatClampNeg), .int (xs (x3 + 4).toNatClampNeg), .int (xs (x3 + 5).toNatClampNeg)] (m_X5_copy E _ hok 44 (xs (x3 + 1).toNatClampNeg) (xs (x3 + 2).toNatClampNeg) (xs (x3 + 3).toNatClampNeg) (xs (x3 + 4).toNatClampNeg) (xs (x3 + 5).toNatClampNeg) σ1) (fun _ h => fh_ob_ok h) rfl rfl ⟨q_1212, q_1213, q_1214, q_6, q_1215⟩ pd_X5_copy rfl ⟨⟨(Nat.le_of_ble_eq_true rfl), (Nat.le_of_ble_eq_true rfl)⟩, rfl, rfl⟩ (Nat.le_of_ble_eq_true rfl) dL_law_1406 (fun r3 σ2 => ?_)
  exact go_icmp_eq C dL_law_1409 (by decide) (fun _ => K σ2) (fun _ => go_none)
set_option maxRecDepth 100000 in
theorem lw_g41 (C : fh_Cx E (lw_M p l e s m b below meth c cl sl Z) code 4 RL ret room_1) (hok : fh_ok E) (hX : va_X b L xs s s.heap) (hbl : b < s.heap.size) (hbA : ¬ fh_A E b) {x3 : Int32} (h1 : vp_in (x3 + 1) L) (h2 : vp_in (x3 + 2) L) (h3 : vp_in (x3 + 3) L) (h4 : vp_in (x3 + 4) L) (h5 : vp_in (x3 + 5) L) {σ : fh_S} {X2 : fh_S → Option (Unit × fh_S)} (K : ∀ σ2, fh_Go E (lw_M p l e s m b below meth c cl sl Z) 4 fh_vU 1545 (lw_lv E b x3) [] σ2 (X2 σ2)) : fh_Go E (lw_M p l e s m b below meth c cl sl Z) 4 fh_vU 1414 (lw_lv E b x3) [] σ (fh_cb (f_X4_load 0 (xs (x3 + 1).toNatClampNeg) σ) fun r1 σ1 => fh_cb (f_X5_load 44 (xs (x3 + 1).toNatClampNeg) σ1) fun r3 σ2 => if r1 = r3 then X2 σ2 else none) := by
  refine go_aload_n C 2 rfl rfl dL_law_1414 ?_
  refine go_aload_n C 3 rfl rfl dL_law_1415 ?_
  refine go_iload_n C 0 rfl rfl dL_law_1416 ?_
  refine go_iconst C 1 dL_law_1417 (by decide) ?_
  refine go_iadd C dL_law_1418 ?_
  refine lw_sld C hX hbl hbA h1 dL_law_1419 ?_
  refine go_callVI C (st := []) [.int (xs (x3 + 1).toNatClampNeg)] (m_X4_load E _ hok 0 (xs (x3 + 1).toNatClampNeg) σ) (fun _ h => fh_ob_ok h) rfl rfl ⟨q_699, q_700, q_701, q_1, q_702⟩ pd_X4_load rfl ⟨⟨(Nat.le_of_ble_eq_true rfl), (Nat.le_of_ble_eq_true rfl)⟩, rfl, rfl⟩ (Nat.le_of_ble_eq_true rfl) dL_law_1420 (fun r1 σ1 => ?_)
  refine go_aload_n C 1 rfl rfl dL_law_1423 ?_
  refine go_aload_n C 3 rfl rfl dL_law_1424 ?_
  refine go_iload_n C 0 rfl rfl dL_law_1425 ?_
  refine go_iconst C 1 dL_law_1426 (by decide) ?_
  refine go_iadd C dL_law_1427 ?_
  refine lw_sld C hX hbl hbA h1 dL_law_1428 ?_
  refine go_callVI C (st := [.int r1]) [.int (xs (x3 + 1).toNatClampNeg)] (m_X5_load E _ hok 44 (xs (x3 + 1).toNatClampNeg) σ1) (fun _ h => fh_ob_ok h) rfl rfl ⟨q_1216, q_1217, q_1218, q_6, q_1219⟩ pd_X5_load rfl ⟨⟨(Nat.le_of_ble_eq_true rfl), (Nat.le_of_ble_eq_true rfl)⟩, rfl, rfl⟩ (Nat.le_of_ble_eq_true rfl) dL_law_1429 (fun r3 σ2 => ?_)
  exact go_icmp_eq C dL_law_1432 (by decide) (fun _ => K σ2) (fun _ => go_none)
set_option maxRecDepth 100000 in
theorem lw_g42 (C : fh_Cx E (lw_M p l e s m b below meth c cl sl Z) code 4 RL ret room_1) (hok : fh_ok E) (hX : va_X b L xs s s.heap) (hbl : b < s.heap.size) (hbA : ¬ fh_A E b) {x3 : Int32} (h1 : vp_in (x3 + 1) L) (h2 : vp_in (x3 + 2) L) (h3 : vp_in (x3 + 3) L) (h4 : vp_in (x3 + 4) L) (h5 : vp_in (x3 + 5) L) {σ : fh_S} {X2 : fh_S → Option (Unit × fh_S)} (K : ∀ σ2, fh_Go E (lw_M p l e s m b below meth c cl sl Z) 4 fh_vU 1545 (lw_lv E b x3) [] σ2 (X2 σ2)) : fh_Go E (lw_M p l e s m b below meth c cl sl Z) 4 fh_vU 1437 (lw_lv E b x3) [] σ (fh_cb (f_X4_judge 0 (xs (x3 + 1).toNatClampNeg) σ) fun r1 σ1 => fh_cb (f_X5_judge 44 (xs (x3 + 1).toNatClampNeg) σ1) fun r3 σ2 => if r1 = r3 then X2 σ2 else none) := by
  refine go_aload_n C 2 rfl rfl dL_law_1437 ?_
  refine go_aload_n C 3 rfl rfl dL_law_1438 ?_
  refine go_iload_n C 0 rfl rfl dL_law_1439 ?_
  refine go_iconst C 1 dL_law_1440 (by decide) ?_
  refine go_iadd C dL_law_1441 ?_
  refine lw_sld C hX hbl hbA h1 dL_law_1442 ?_
  refine go_callVI C (st := []) [.int (xs (x3 + 1).toNatClampNeg)] (m_X4_judge E _ hok 0 (xs (x3 + 1).toNatClampNeg) σ) (fun _ h => fh_ob_ok h) rfl rfl ⟨q_703, q_704, q_705, q_1, q_706⟩ pd_X4_judge rfl ⟨⟨(Nat.le_of_ble_eq_true rfl), (Nat.le_of_ble_eq_true rfl)⟩, rfl, rfl⟩ (Nat.le_of_ble_eq_true rfl) dL_law_1443 (fun r1 σ1 => ?_)
  refine go_aload_n C 1 rfl rfl dL_law_1446 ?_
  refine go_aload_n C 3 rfl rfl dL_law_1447 ?_
  refine go_iload_n C 0 rfl rfl dL_law_1448 ?_
  refine go_iconst C 1 dL_law_1449 (by decide) ?_
  refine go_iadd C dL_law_1450 ?_
  refine lw_sld C hX hbl hbA h1 dL_law_1451 ?_
  refine go_callVI C (st := [.int r1]) [.int (xs (x3 + 1).toNatClampNeg)] (m_X5_judge E _ hok 44 (xs (x3 + 1).toNatClampNeg) σ1) (fun _ h => fh_ob_ok h) rfl rfl ⟨q_1220, q_1221, q_1222, q_6, q_1223⟩ pd_X5_judge rfl ⟨⟨(Nat.le_of_ble_eq_true rfl), (Nat.le_of_ble_eq_true rfl)⟩, rfl, rfl⟩ (Nat.le_of_ble_eq_true rfl) dL_law_1452 (fun r3 σ2 => ?_)
  exact go_icmp_eq C dL_law_1455 (by decide) (fun _ => K σ2) (fun _ => go_none)
set_option maxRecDepth 100000 in
theorem lw_g43 (C : fh_Cx E (lw_M p l e s m b below meth c cl sl Z) code 4 RL ret room_1) (hok : fh_ok E) (hX : va_X b L xs s s.heap) (hbl : b < s.heap.size) (hbA : ¬ fh_A E b) {x3 : Int32} (h1 : vp_in (x3 + 1) L) (h2 : vp_in (x3 + 2) L) (h3 : vp_in (x3 + 3) L) (h4 : vp_in (x3 + 4) L) (h5 : vp_in (x3 + 5) L) {σ : fh_S} {X2 : fh_S → Option (Unit × fh_S)} (K : ∀ σ2, fh_Go E (lw_M p l e s m b below meth c cl sl Z) 4 fh_vU 1545 (lw_lv E b x3) [] σ2 (X2 σ2)) : fh_Go E (lw_M p l e s m b below meth c cl sl Z) 4 fh_vU 1460 (lw_lv E b x3) [] σ (fh_cb (f_X4_image 0  σ) fun r1 σ1 => fh_cb (f_X5_image 44  σ1) fun r3 σ2 => if r1 = r3 then X2 σ2 else none) := by
  refine go_aload_n C 2 rfl rfl dL_law_1460 ?_
  refine go_callVI C (st := []) [] (m_X4_image E _ hok 0 σ) (fun _ h => fh_ob_ok h) rfl rfl ⟨q_707, q_708, q_709, q_1, q_710⟩ pd_X4_image rfl ⟨⟨(Nat.le_of_ble_eq_true rfl), (Nat.le_of_ble_eq_true rfl)⟩, rfl, rfl⟩ (Nat.le_of_ble_eq_true rfl) dL_law_1461 (fun r1 σ1 => ?_)
  refine go_aload_n C 1 rfl rfl dL_law_1464 ?_
  refine go_callVI C (st := [.int r1]) [] (m_X5_image E _ hok 44 σ1) (fun _ h => fh_ob_ok h) rfl rfl ⟨q_1224, q_1225, q_1226, q_6, q_1227⟩ pd_X5_image rfl ⟨⟨(Nat.le_of_ble_eq_true rfl), (Nat.le_of_ble_eq_true rfl)⟩, rfl, rfl⟩ (Nat.le_of_ble_eq_true rfl) dL_law_1465 (fun r3 σ2 => ?_)
  exact go_icmp_eq C dL_law_1468 (by decide) (fun _ => K σ2) (fun _ => go_none)
set_option maxRecDepth 100000 in
theorem lw_g44 (C : fh_Cx E (lw_M p l e s m b below meth c cl sl Z) code 4 RL ret room_1) (hok : fh_ok E) (hX : va_X b L xs s s.heap) (hbl : b < s.heap.size) (hbA : ¬ fh_A E b) {x3 : Int32} (h1 : vp_in (x3 + 1) L) (h2 : vp_in (x3 + 2) L) (h3 : vp_in (x3 + 3) L) (h4 : vp_in (x3 + 4) L) (h5 : vp_in (x3 + 5) L) {σ : fh_S} {X2 : fh_S → Option (Unit × fh_S)} (K : ∀ σ2, fh_Go E (lw_M p l e s m b below meth c cl sl Z) 4 fh_vU 1545 (lw_lv E b x3) [] σ2 (X2 σ2)) : fh_Go E (lw_M p l e s m b below meth c cl sl Z) 4 fh_vU 1473 (lw_lv E b x3) [] σ (fh_cb (f_X4_undo 0  σ) fun r1 σ1 => fh_cb (f_X5_undo 44  σ1) fun r3 σ2 => if r1 = r3 then X2 σ2 else none) := by
  refine go_aload_n C 2 rfl rfl dL_law_1473 ?_
  refine go_callVI C (st := []) [] (m_X4_undo E _ hok 0 σ) (fun _ h => fh_ob_ok h) rfl rfl ⟨q_711, q_712, q_713, q_1, q_714⟩ pd_X4_undo rfl ⟨⟨(Nat.le_of_ble_eq_true rfl), (Nat.le_of_ble_eq_true rfl)⟩, rfl, rfl⟩ (Nat.le_of_ble_eq_true rfl) dL_law_1474 (fun r1 σ1 => ?_)
  refine go_aload_n C 1 rfl rfl dL_law_1477 ?_
  refine go_callVI C (st := [.int r1]) [] (m_X5_undo E _ hok 44 σ1) (fun _ h => fh_ob_ok h) rfl rfl ⟨q_1228, q_1229, q_1230, q_6, q_1231⟩ pd_X5_undo rfl ⟨⟨(Nat.le_of_ble_eq_true rfl), (Nat.le_of_ble_eq_true rfl)⟩, rfl, rfl⟩ (Nat.le_of_ble_eq_true rfl) dL_law_1478 (fun r3 σ2 => ?_)
  exact go_icmp_eq C dL_law_1481 (by decide) (fun _ => K σ2) (fun _ => go_none)
set_option maxRecDepth 100000 in
theorem lw_g45 (C : fh_Cx E (lw_M p l e s m b below meth c cl sl Z) code 4 RL ret room_1) (hok : fh_ok E) (hX : va_X b L xs s s.heap) (hbl : b < s.heap.size) (hbA : ¬ fh_A E b) {x3 : Int32} (h1 : vp_in (x3 + 1) L) (h2 : vp_in (x3 + 2) L) (h3 : vp_in (x3 + 3) L) (h4 : vp_in (x3 + 4) L) (h5 : vp_in (x3 + 5) L) {σ : fh_S} {X2 : fh_S → Option (Unit × fh_S)} (K : ∀ σ2, fh_Go E (lw_M p l e s m b below meth c cl sl Z) 4 fh_vU 1545 (lw_lv E b x3) [] σ2 (X2 σ2)) : fh_Go E (lw_M p l e s m b below meth c cl sl Z) 4 fh_vU 1486 (lw_lv E b x3) [] σ (fh_cb (f_X4_tear 0  σ) fun r1 σ1 => fh_cb (f_X5_tear 44  σ1) fun r3 σ2 => if r1 = r3 then X2 σ2 else none) := by
  refine go_aload_n C 2 rfl rfl dL_law_1486 ?_
  refine go_callVI C (st := []) [] (m_X4_tear E _ hok 0 σ) (fun _ h => fh_ob_ok h) rfl rfl ⟨q_715, q_716, q_717, q_1, q_718⟩ pd_X4_tear rfl ⟨⟨(Nat.le_of_ble_eq_true rfl), (Nat.le_of_ble_eq_true rfl)⟩, rfl, rfl⟩ (Nat.le_of_ble_eq_true rfl) dL_law_1487 (fun r1 σ1 => ?_)
  refine go_aload_n C 1 rfl rfl dL_law_1490 ?_
  refine go_callVI C (st := [.int r1]) [] (m_X5_tear E _ hok 44 σ1) (fun _ h => fh_ob_ok h) rfl rfl ⟨q_1232, q_1233, q_1234, q_6, q_1235⟩ pd_X5_tear rfl ⟨⟨(Nat.le_of_ble_eq_true rfl), (Nat.le_of_ble_eq_true rfl)⟩, rfl, rfl⟩ (Nat.le_of_ble_eq_true rfl) dL_law_1491 (fun r3 σ2 => ?_)
  exact go_icmp_eq C dL_law_1494 (by decide) (fun _ => K σ2) (fun _ => go_none)
set_option maxRecDepth 100000 in
theorem lw_g46 (C : fh_Cx E (lw_M p l e s m b below meth c cl sl Z) code 4 RL ret room_1) (hok : fh_ok E) (hX : va_X b L xs s s.heap) (hbl : b < s.heap.size) (hbA : ¬ fh_A E b) {x3 : Int32} (h1 : vp_in (x3 + 1) L) (h2 : vp_in (x3 + 2) L) (h3 : vp_in (x3 + 3) L) (h4 : vp_in (x3 + 4) L) (h5 : vp_in (x3 + 5) L) {σ : fh_S} {X2 : fh_S → Option (Unit × fh_S)} (K : ∀ σ2, fh_Go E (lw_M p l e s m b below meth c cl sl Z) 4 fh_vU 1545 (lw_lv E b x3) [] σ2 (X2 σ2)) : fh_Go E (lw_M p l e s m b below meth c cl sl Z) 4 fh_vU 1499 (lw_lv E b x3) [] σ (fh_cb (f_X4_count 0 (xs (x3 + 1).toNatClampNeg) σ) fun r1 σ1 => fh_cb (f_X5_count 44 (xs (x3 + 1).toNatClampNeg) σ1) fun r3 σ2 => if r1 = r3 then X2 σ2 else none) := by
  refine go_aload_n C 2 rfl rfl dL_law_1499 ?_
  refine go_aload_n C 3 rfl rfl dL_law_1500 ?_
  refine go_iload_n C 0 rfl rfl dL_law_1501 ?_
  refine go_iconst C 1 dL_law_1502 (by decide) ?_
  refine go_iadd C dL_law_1503 ?_
  refine lw_sld C hX hbl hbA h1 dL_law_1504 ?_
  refine go_callVI C (st := []) [.int (xs (x3 + 1).toNatClampNeg)] (m_X4_count E _ hok 0 (xs (x3 + 1).toNatClampNeg) σ) (fun _ h => fh_ob_ok h) rfl rfl ⟨q_719, q_720, q_721, q_1, q_722⟩ pd_X4_count rfl ⟨⟨(Nat.le_of_ble_eq_true rfl), (Nat.le_of_ble_eq_true rfl)⟩, rfl, rfl⟩ (Nat.le_of_ble_eq_true rfl) dL_law_1505 (fun r1 σ1 => ?_)
  refine go_aload_n C 1 rfl rfl dL_law_1508 ?_
  refine go_aload_n C 3 rfl rfl dL_law_1509 ?_
  refine go_iload_n C 0 rfl rfl dL_law_1510 ?_
  refine go_iconst C 1 dL_law_1511 (by decide) ?_
  refine go_iadd C dL_law_1512 ?_
  refine lw_sld C hX hbl hbA h1 dL_law_1513 ?_
  refine go_callVI C (st := [.int r1]) [.int (xs (x3 + 1).toNatClampNeg)] (m_X5_count E _ hok 44 (xs (x3 + 1).toNatClampNeg) σ1) (fun _ h => fh_ob_ok h) rfl rfl ⟨q_1236, q_1237, q_1238, q_6, q_1239⟩ pd_X5_count rfl ⟨⟨(Nat.le_of_ble_eq_true rfl), (Nat.le_of_ble_eq_true rfl)⟩, rfl, rfl⟩ (Nat.le_of_ble_eq_true rfl) dL_law_1514 (fun r3 σ2 => ?_)
  exact go_icmp_eq C dL_law_1517 (by decide) (fun _ => K σ2) (fun _ => go_none)
set_option maxRecDepth 100000 in
theorem lw_g47 (C : fh_Cx E (lw_M p l e s m b below meth c cl sl Z) code 4 RL ret room_1) (hok : fh_ok E) (hX : va_X b L xs s s.heap) (hbl : b < s.heap.size) (hbA : ¬ fh_A E b) {x3 : Int32} (h1 : vp_in (x3 + 1) L) (h2 : vp_in (x3 + 2) L) (h3 : vp_in (x3 + 3) L) (h4 : vp_in (x3 + 4) L) (h5 : vp_in (x3 + 5) L) {σ : fh_S} {X2 : fh_S → Option (Unit × fh_S)} (K : ∀ σ2, fh_Go E (lw_M p l e s m b below meth c cl sl Z) 4 fh_vU 1545 (lw_lv E b x3) [] σ2 (X2 σ2)) : fh_Go E (lw_M p l e s m b below meth c cl sl Z) 4 fh_vU 1522 (lw_lv E b x3) [] σ (fh_cb (f_X4_status 0 (xs (x3 + 1).toNatClampNeg) σ) fun r1 σ1 => fh_cb (f_X5_status 44 (xs (x3 + 1).toNatClampNeg) σ1) fun r3 σ2 => if r1 = r3 then X2 σ2 else none) := by
  refine go_aload_n C 2 rfl rfl dL_law_1522 ?_
  refine go_aload_n C 3 rfl rfl dL_law_1523 ?_
  refine go_iload_n C 0 rfl rfl dL_law_1524 ?_
  refine go_iconst C 1 dL_law_1525 (by decide) ?_
  refine go_iadd C dL_law_1526 ?_
  refine lw_sld C hX hbl hbA h1 dL_law_1527 ?_
  refine go_callVI C (st := []) [.int (xs (x3 + 1).toNatClampNeg)] (m_X4_status E _ hok 0 (xs (x3 + 1).toNatClampNeg) σ) (fun _ h => fh_ob_ok h) rfl rfl ⟨q_727, q_728, q_729, q_1, q_730⟩ pd_X4_status rfl ⟨⟨(Nat.le_of_ble_eq_true rfl), (Nat.le_of_ble_eq_true rfl)⟩, rfl, rfl⟩ (Nat.le_of_ble_eq_true rfl) dL_law_1528 (fun r1 σ1 => ?_)
  refine go_aload_n C 1 rfl rfl dL_law_1531 ?_
  refine go_aload_n C 3 rfl rfl dL_law_1532 ?_
  refine go_iload_n C 0 rfl rfl dL_law_1533 ?_
  refine go_iconst C 1 dL_law_1534 (by decide) ?_
  refine go_iadd C dL_law_1535 ?_
  refine lw_sld C hX hbl hbA h1 dL_law_1536 ?_
  refine go_callVI C (st := [.int r1]) [.int (xs (x3 + 1).toNatClampNeg)] (m_X5_status E _ hok 44 (xs (x3 + 1).toNatClampNeg) σ1) (fun _ h => fh_ob_ok h) rfl rfl ⟨q_1240, q_1241, q_1242, q_6, q_1243⟩ pd_X5_status rfl ⟨⟨(Nat.le_of_ble_eq_true rfl), (Nat.le_of_ble_eq_true rfl)⟩, rfl, rfl⟩ (Nat.le_of_ble_eq_true rfl) dL_law_1537 (fun r3 σ2 => ?_)
  exact go_icmp_eq C dL_law_1540 (by decide) (fun _ => K σ2) (fun _ => go_none)
end LWC1
