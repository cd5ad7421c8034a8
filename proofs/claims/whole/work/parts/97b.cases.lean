/-! The law: its cases. -/
set_option maxHeartbeats 4000000 in
set_option maxRecDepth 100000 in
theorem law_c8 {C : Ctx} (X : CX C code 7 RL wsL_law room_1 (some .boolean)) {b k0 kc ks : Nat} {σ : Mem} (hr : kc ≤ 1084 ∧ ks ≤ 9122) (hS : WLD σ) (kk : ∀ σ', WLD σ' → G C 7 kc ks 1588 (LL C b k0) [] σ') : G C 7 kc ks 756 (LL C b k0) [] σ := by
  obtain ⟨bv, σ1, σ2, e1, e2, hW⟩ := st_least hS
  refine g_aload_n X dL_law_756 1 rfl rfl ?_
  refine c_VIeq (q := 0) (vs := []) (rest := []) X (kX2_least (cL C) σ) (fun s a hts => cwV 0 hts gL_law_X2_least rfl rfl rfl (by decide +kernel) ⟨Nat.le_of_ble_eq_true rfl, Nat.le_of_ble_eq_true rfl⟩) obj_x (rfl : vwCl[2]? = some (RX2, TX2, 15)) rfl rfl rfl rfl (Nat.le_of_ble_eq_true rfl) dL_law_757 hr e1 ?_
  refine g_aload_n X dL_law_760 2 rfl rfl ?_
  refine c_VIeq (q := 35) (vs := []) (rest := [.int bv]) X (kX3_least (cL C) σ1) (fun s a hts => cwV 0 hts gL_law_X3_least rfl rfl rfl (by decide +kernel) ⟨Nat.le_of_ble_eq_true rfl, Nat.le_of_ble_eq_true rfl⟩) obj_m (rfl : vwCl[3]? = some (RX3, TX3, 21)) rfl rfl rfl rfl (Nat.le_of_ble_eq_true rfl) dL_law_761 hr e2 ?_
  exact l_icmp_eq (tgt := 1588) X dL_law_764 (by decide) (fun _ => kk σ2 hW) (fun hc => absurd rfl hc)
set_option maxHeartbeats 4000000 in
set_option maxRecDepth 100000 in
theorem law_c9 {C : Ctx} (X : CX C code 7 RL wsL_law room_1 (some .boolean)) {b Ln k0 kc ks : Nat} {xs : Nat → Int32} {σ : Mem} (HX : SX C b Ln xs) (hk : k0 + 5 ≤ Ln) (hr : kc + 1 ≤ 1084 ∧ ks + 6 ≤ 9122) (hS : WLD σ) (kk : ∀ σ', WLD σ' → G C 7 (kc + 1) (ks + 6) 1588 (LL C b k0) [] σ') : G C 7 kc ks 769 (LL C b k0) [] σ := by
  obtain ⟨kv, σ1, bv, σ2, e1, e2, h35, h50, hW⟩ := st_leastAnew hS
  refine g_aload_n X dL_law_769 1 rfl rfl ?_
  refine g_aload_n X dL_law_770 3 rfl rfl ?_
  refine c_KW (vs := [.ref (adr C 0), .ref (adr C 50)]) (rest := []) X (kL_leastAnew (cL C) σ) (fun s a hts => vx_cwSW 2 hts gL_law_L_leastAnew rfl rfl rfl (by decide +kernel) ⟨Nat.le_of_ble_eq_true rfl, Nat.le_of_ble_eq_true rfl⟩) rfl rfl rfl (Nat.le_of_ble_eq_true rfl) dL_law_771 hr e1 ?_
  refine g_istore (L' := (5, .int kv) :: LL C b k0) X dL_law_774 (by decide) rfl ?_
  refine g_aload_n X dL_law_776 3 rfl rfl ?_
  refine c_VIeq (q := 35) (vs := []) (rest := []) X (kX3_leastAnew (cL C) σ1) (fun s a hts => cwV 0 hts gL_law_X3_leastAnew rfl rfl rfl (by decide +kernel) ⟨Nat.le_of_ble_eq_true rfl, Nat.le_of_ble_eq_true rfl⟩) obj_m (rfl : vwCl[3]? = some (RX3, TX3, 21)) rfl rfl rfl rfl (Nat.le_of_ble_eq_true rfl) dL_law_777 hr e2 ?_
  refine g_istore (L' := (6, .int bv) :: (5, .int kv) :: LL C b k0) X dL_law_780 (by decide) rfl ?_
  exact l_tail (p := 782) X h35 h50 hr rfl rfl rfl rfl dL_law_782 dL_law_783 dL_law_786 dL_law_788 dL_law_793 dL_law_795 dL_law_798 dL_law_799 dL_law_800 dL_law_801 dL_law_803 dL_law_804 dL_law_805 dL_law_810 (by decide) (kk σ2 hW)
set_option maxHeartbeats 4000000 in
set_option maxRecDepth 100000 in
theorem law_c10 {C : Ctx} (X : CX C code 7 RL wsL_law room_1 (some .boolean)) {b Ln k0 kc ks : Nat} {xs : Nat → Int32} {σ : Mem} (HX : SX C b Ln xs) (hk : k0 + 5 ≤ Ln) (hr : kc + 1 ≤ 1084 ∧ ks + 6 ≤ 9122) (hS : WLD σ) (kk : ∀ σ', WLD σ' → G C 7 (kc + 1) (ks + 6) 1588 (LL C b k0) [] σ') : G C 7 kc ks 813 (LL C b k0) [] σ := by
  obtain ⟨kv, σ1, bv, σ2, e1, e2, h35, h50, hW⟩ := st_carried (x := xs (k0 + 1)) (y := xs (k0 + 2)) hS
  refine g_aload_n X dL_law_813 1 rfl rfl ?_
  refine l_arg X HX (k0 := k0) (j := 1) (p0 := 0) (p4 := 4) (by omega) rfl rfl rfl dL_law_814 dL_law_815 dL_law_817 dL_law_818 dL_law_819 ?_
  refine l_arg X HX (k0 := k0) (j := 2) (p0 := 0) (p4 := 4) (by omega) rfl rfl rfl dL_law_820 dL_law_821 dL_law_823 dL_law_824 dL_law_825 ?_
  refine g_aload_n X dL_law_826 3 rfl rfl ?_
  refine c_KW (vs := [.ref (adr C 0), .int (xs (k0 + 1)), .int (xs (k0 + 2)), .ref (adr C 50)]) (rest := []) X (kL_carried (cL C) (xs (k0 + 1)) (xs (k0 + 2)) σ) (fun s a hts => vx_cwSW 4 hts gL_law_L_carried rfl rfl rfl (by decide +kernel) ⟨Nat.le_of_ble_eq_true rfl, Nat.le_of_ble_eq_true rfl⟩) rfl rfl rfl (Nat.le_of_ble_eq_true rfl) dL_law_827 hr e1 ?_
  refine g_istore (L' := (5, .int kv) :: LL C b k0) X dL_law_830 (by decide) rfl ?_
  refine g_aload_n X dL_law_832 3 rfl rfl ?_
  refine l_arg X HX (k0 := k0) (j := 1) (p0 := 1) (p4 := 5) (by omega) rfl rfl rfl dL_law_833 dL_law_834 dL_law_836 dL_law_837 dL_law_838 ?_
  refine l_arg X HX (k0 := k0) (j := 2) (p0 := 1) (p4 := 5) (by omega) rfl rfl rfl dL_law_839 dL_law_840 dL_law_842 dL_law_843 dL_law_844 ?_
  refine c_VIeq (q := 35) (vs := [.int (xs (k0 + 1)), .int (xs (k0 + 2))]) (rest := []) X (kX3_carried (cL C) (xs (k0 + 1)) (xs (k0 + 2)) σ1) (fun s a hts => cwV 2 hts gL_law_X3_carried rfl rfl rfl (by decide +kernel) ⟨Nat.le_of_ble_eq_true rfl, Nat.le_of_ble_eq_true rfl⟩) obj_m (rfl : vwCl[3]? = some (RX3, TX3, 21)) rfl rfl rfl rfl (Nat.le_of_ble_eq_true rfl) dL_law_845 hr e2 ?_
  refine g_istore (L' := (6, .int bv) :: (5, .int kv) :: LL C b k0) X dL_law_848 (by decide) rfl ?_
  exact l_tail (p := 850) X h35 h50 hr rfl rfl rfl rfl dL_law_850 dL_law_851 dL_law_854 dL_law_856 dL_law_861 dL_law_863 dL_law_866 dL_law_867 dL_law_868 dL_law_869 dL_law_871 dL_law_872 dL_law_873 dL_law_878 (by decide) (kk σ2 hW)
set_option maxHeartbeats 4000000 in
set_option maxRecDepth 100000 in
theorem law_c11 {C : Ctx} (X : CX C code 7 RL wsL_law room_1 (some .boolean)) {b Ln k0 kc ks : Nat} {xs : Nat → Int32} {σ : Mem} (HX : SX C b Ln xs) (hk : k0 + 5 ≤ Ln) (hr : kc + 1 ≤ 1084 ∧ ks + 6 ≤ 9122) (hS : WLD σ) (kk : ∀ σ', WLD σ' → G C 7 (kc + 1) (ks + 6) 1588 (LL C b k0) [] σ') : G C 7 kc ks 881 (LL C b k0) [] σ := by
  obtain ⟨kv, σ1, bv, σ2, e1, e2, h35, h50, hW⟩ := st_left (v := bz (xs (k0 + 1))) (x := xs (k0 + 2)) hS
  refine g_aload_n X dL_law_881 1 rfl rfl ?_
  refine l_arg X HX (k0 := k0) (j := 1) (p0 := 0) (p4 := 4) (by omega) rfl rfl rfl dL_law_882 dL_law_883 dL_law_885 dL_law_886 dL_law_887 ?_
  refine l_bool (t7 := 895) (t8 := 896) X dL_law_888 dL_law_891 dL_law_892 dL_law_895 rfl rfl ?_
  refine l_arg X HX (k0 := k0) (j := 2) (p0 := 0) (p4 := 4) (by omega) rfl rfl rfl dL_law_896 dL_law_897 dL_law_899 dL_law_900 dL_law_901 ?_
  refine g_aload_n X dL_law_902 3 rfl rfl ?_
  refine c_KW (vs := [.ref (adr C 0), .int (bz (xs (k0 + 1))), .int (xs (k0 + 2)), .ref (adr C 50)]) (rest := []) X (kL_left (cL C) (bz (xs (k0 + 1))) (xs (k0 + 2)) σ) (fun s a hts => vx_cwSW 4 hts gL_law_L_left rfl rfl rfl (by decide +kernel) ⟨Nat.le_of_ble_eq_true rfl, Nat.le_of_ble_eq_true rfl⟩) rfl rfl rfl (Nat.le_of_ble_eq_true rfl) dL_law_903 hr e1 ?_
  refine g_istore (L' := (5, .int kv) :: LL C b k0) X dL_law_906 (by decide) rfl ?_
  refine g_aload_n X dL_law_908 3 rfl rfl ?_
  refine l_arg X HX (k0 := k0) (j := 1) (p0 := 1) (p4 := 5) (by omega) rfl rfl rfl dL_law_909 dL_law_910 dL_law_912 dL_law_913 dL_law_914 ?_
  refine l_bool (t7 := 922) (t8 := 923) X dL_law_915 dL_law_918 dL_law_919 dL_law_922 rfl rfl ?_
  refine l_arg X HX (k0 := k0) (j := 2) (p0 := 1) (p4 := 5) (by omega) rfl rfl rfl dL_law_923 dL_law_924 dL_law_926 dL_law_927 dL_law_928 ?_
  refine c_VIeq (q := 35) (vs := [.int (bz (xs (k0 + 1))), .int (xs (k0 + 2))]) (rest := []) X (kX3_left (cL C) (bz (xs (k0 + 1))) (xs (k0 + 2)) σ1) (fun s a hts => cwV 2 hts gL_law_X3_left rfl rfl rfl (by decide +kernel) ⟨Nat.le_of_ble_eq_true rfl, Nat.le_of_ble_eq_true rfl⟩) obj_m (rfl : vwCl[3]? = some (RX3, TX3, 21)) rfl rfl rfl rfl (Nat.le_of_ble_eq_true rfl) dL_law_929 hr e2 ?_
  refine g_istore (L' := (6, .int bv) :: (5, .int kv) :: LL C b k0) X dL_law_932 (by decide) rfl ?_
  exact l_tail (p := 934) X h35 h50 hr rfl rfl rfl rfl dL_law_934 dL_law_935 dL_law_938 dL_law_940 dL_law_945 dL_law_947 dL_law_950 dL_law_951 dL_law_952 dL_law_953 dL_law_955 dL_law_956 dL_law_957 dL_law_962 (by decide) (kk σ2 hW)
set_option maxHeartbeats 4000000 in
set_option maxRecDepth 100000 in
theorem law_c12 {C : Ctx} (X : CX C code 7 RL wsL_law room_1 (some .boolean)) {b Ln k0 kc ks : Nat} {xs : Nat → Int32} {σ : Mem} (HX : SX C b Ln xs) (hk : k0 + 5 ≤ Ln) (hr : kc + 1 ≤ 1084 ∧ ks + 6 ≤ 9122) (hS : WLD σ) (kk : ∀ σ', WLD σ' → G C 7 (kc + 1) (ks + 6) 1588 (LL C b k0) [] σ') : G C 7 kc ks 965 (LL C b k0) [] σ := by
  obtain ⟨kv, σ1, bv, σ2, e1, e2, h35, h50, hW⟩ := st_without (x := xs (k0 + 1)) (y := xs (k0 + 2)) hS
  refine g_aload_n X dL_law_965 1 rfl rfl ?_
  refine l_arg X HX (k0 := k0) (j := 1) (p0 := 0) (p4 := 4) (by omega) rfl rfl rfl dL_law_966 dL_law_967 dL_law_969 dL_law_970 dL_law_971 ?_
  refine l_arg X HX (k0 := k0) (j := 2) (p0 := 0) (p4 := 4) (by omega) rfl rfl rfl dL_law_972 dL_law_973 dL_law_975 dL_law_976 dL_law_977 ?_
  refine g_aload_n X dL_law_978 3 rfl rfl ?_
  refine c_KW (vs := [.ref (adr C 0), .int (xs (k0 + 1)), .int (xs (k0 + 2)), .ref (adr C 50)]) (rest := []) X (kL_without (cL C) (xs (k0 + 1)) (xs (k0 + 2)) σ) (fun s a hts => vx_cwSW 4 hts gL_law_L_without rfl rfl rfl (by decide +kernel) ⟨Nat.le_of_ble_eq_true rfl, Nat.le_of_ble_eq_true rfl⟩) rfl rfl rfl (Nat.le_of_ble_eq_true rfl) dL_law_979 hr e1 ?_
  refine g_istore (L' := (5, .int kv) :: LL C b k0) X dL_law_982 (by decide) rfl ?_
  refine g_aload_n X dL_law_984 3 rfl rfl ?_
  refine l_arg X HX (k0 := k0) (j := 1) (p0 := 1) (p4 := 5) (by omega) rfl rfl rfl dL_law_985 dL_law_986 dL_law_988 dL_law_989 dL_law_990 ?_
  refine l_arg X HX (k0 := k0) (j := 2) (p0 := 1) (p4 := 5) (by omega) rfl rfl rfl dL_law_991 dL_law_992 dL_law_994 dL_law_995 dL_law_996 ?_
  refine c_VIeq (q := 35) (vs := [.int (xs (k0 + 1)), .int (xs (k0 + 2))]) (rest := []) X (kX3_without (cL C) (xs (k0 + 1)) (xs (k0 + 2)) σ1) (fun s a hts => cwV 2 hts gL_law_X3_without rfl rfl rfl (by decide +kernel) ⟨Nat.le_of_ble_eq_true rfl, Nat.le_of_ble_eq_true rfl⟩) obj_m (rfl : vwCl[3]? = some (RX3, TX3, 21)) rfl rfl rfl rfl (Nat.le_of_ble_eq_true rfl) dL_law_997 hr e2 ?_
  refine g_istore (L' := (6, .int bv) :: (5, .int kv) :: LL C b k0) X dL_law_1000 (by decide) rfl ?_
  exact l_tail (p := 1002) X h35 h50 hr rfl rfl rfl rfl dL_law_1002 dL_law_1003 dL_law_1006 dL_law_1008 dL_law_1013 dL_law_1015 dL_law_1018 dL_law_1019 dL_law_1020 dL_law_1021 dL_law_1023 dL_law_1024 dL_law_1025 dL_law_1030 (by decide) (kk σ2 hW)
set_option maxHeartbeats 4000000 in
set_option maxRecDepth 100000 in
theorem law_c13 {C : Ctx} (X : CX C code 7 RL wsL_law room_1 (some .boolean)) {b Ln k0 kc ks : Nat} {xs : Nat → Int32} {σ : Mem} (HX : SX C b Ln xs) (hk : k0 + 5 ≤ Ln) (hr : kc + 1 ≤ 1084 ∧ ks + 6 ≤ 9122) (hS : WLD σ) (kk : ∀ σ', WLD σ' → G C 7 (kc + 1) (ks + 6) 1588 (LL C b k0) [] σ') : G C 7 kc ks 1033 (LL C b k0) [] σ := by
  obtain ⟨kv, σ1, bv, σ2, e1, e2, h35, h50, hW⟩ := st_price (v := bz (xs (k0 + 1))) (x := xs (k0 + 2)) (bz01 _) hS
  refine g_aload_n X dL_law_1033 1 rfl rfl ?_
  refine l_arg X HX (k0 := k0) (j := 1) (p0 := 0) (p4 := 4) (by omega) rfl rfl rfl dL_law_1034 dL_law_1035 dL_law_1037 dL_law_1038 dL_law_1039 ?_
  refine l_bool (t7 := 1047) (t8 := 1048) X dL_law_1040 dL_law_1043 dL_law_1044 dL_law_1047 rfl rfl ?_
  refine l_arg X HX (k0 := k0) (j := 2) (p0 := 0) (p4 := 4) (by omega) rfl rfl rfl dL_law_1048 dL_law_1049 dL_law_1051 dL_law_1052 dL_law_1053 ?_
  refine g_aload_n X dL_law_1054 3 rfl rfl ?_
  refine c_KW (vs := [.ref (adr C 0), .int (bz (xs (k0 + 1))), .int (xs (k0 + 2)), .ref (adr C 50)]) (rest := []) X (kL_price (cL C) (bz (xs (k0 + 1))) (xs (k0 + 2)) σ) (fun s a hts => vx_cwSW 4 hts gL_law_L_price rfl rfl rfl (by decide +kernel) ⟨Nat.le_of_ble_eq_true rfl, Nat.le_of_ble_eq_true rfl⟩) rfl rfl rfl (Nat.le_of_ble_eq_true rfl) dL_law_1055 hr e1 ?_
  refine g_istore (L' := (5, .int kv) :: LL C b k0) X dL_law_1058 (by decide) rfl ?_
  refine g_aload_n X dL_law_1060 3 rfl rfl ?_
  refine l_arg X HX (k0 := k0) (j := 1) (p0 := 1) (p4 := 5) (by omega) rfl rfl rfl dL_law_1061 dL_law_1062 dL_law_1064 dL_law_1065 dL_law_1066 ?_
  refine l_bool (t7 := 1074) (t8 := 1075) X dL_law_1067 dL_law_1070 dL_law_1071 dL_law_1074 rfl rfl ?_
  refine l_arg X HX (k0 := k0) (j := 2) (p0 := 1) (p4 := 5) (by omega) rfl rfl rfl dL_law_1075 dL_law_1076 dL_law_1078 dL_law_1079 dL_law_1080 ?_
  refine c_VIeq (q := 35) (vs := [.int (bz (xs (k0 + 1))), .int (xs (k0 + 2))]) (rest := []) X (kX3_price (cL C) (bz (xs (k0 + 1))) (xs (k0 + 2)) σ1) (fun s a hts => cwV 2 hts gL_law_X3_price rfl rfl rfl (by decide +kernel) ⟨Nat.le_of_ble_eq_true rfl, Nat.le_of_ble_eq_true rfl⟩) obj_m (rfl : vwCl[3]? = some (RX3, TX3, 21)) rfl rfl rfl rfl (Nat.le_of_ble_eq_true rfl) dL_law_1081 hr e2 ?_
  refine g_istore (L' := (6, .int bv) :: (5, .int kv) :: LL C b k0) X dL_law_1084 (by decide) rfl ?_
  exact l_tail (p := 1086) X h35 h50 hr rfl rfl rfl rfl dL_law_1086 dL_law_1087 dL_law_1090 dL_law_1092 dL_law_1097 dL_law_1099 dL_law_1102 dL_law_1103 dL_law_1104 dL_law_1105 dL_law_1107 dL_law_1108 dL_law_1109 dL_law_1114 (by decide) (kk σ2 hW)
set_option maxHeartbeats 4000000 in
set_option maxRecDepth 100000 in
theorem law_c14 {C : Ctx} (X : CX C code 7 RL wsL_law room_1 (some .boolean)) {b Ln k0 kc ks : Nat} {xs : Nat → Int32} {σ : Mem} (HX : SX C b Ln xs) (hk : k0 + 5 ≤ Ln) (hr : kc + 1 ≤ 1084 ∧ ks + 6 ≤ 9122) (hS : WLD σ) (kk : ∀ σ', WLD σ' → G C 7 (kc + 1) (ks + 6) 1588 (LL C b k0) [] σ') : G C 7 kc ks 1117 (LL C b k0) [] σ := by
  obtain ⟨kv, σ1, bv, σ2, e1, e2, h35, h50, hW⟩ := st_toll (x := xs (k0 + 1)) (y := xs (k0 + 2)) hS
  refine g_aload_n X dL_law_1117 1 rfl rfl ?_
  refine l_arg X HX (k0 := k0) (j := 1) (p0 := 0) (p4 := 4) (by omega) rfl rfl rfl dL_law_1118 dL_law_1119 dL_law_1121 dL_law_1122 dL_law_1123 ?_
  refine l_arg X HX (k0 := k0) (j := 2) (p0 := 0) (p4 := 4) (by omega) rfl rfl rfl dL_law_1124 dL_law_1125 dL_law_1127 dL_law_1128 dL_law_1129 ?_
  refine g_aload_n X dL_law_1130 3 rfl rfl ?_
  refine c_KW (vs := [.ref (adr C 0), .int (xs (k0 + 1)), .int (xs (k0 + 2)), .ref (adr C 50)]) (rest := []) X (kL_toll (cL C) (xs (k0 + 1)) (xs (k0 + 2)) σ) (fun s a hts => vx_cwSW 4 hts gL_law_L_toll rfl rfl rfl (by decide +kernel) ⟨Nat.le_of_ble_eq_true rfl, Nat.le_of_ble_eq_true rfl⟩) rfl rfl rfl (Nat.le_of_ble_eq_true rfl) dL_law_1131 hr e1 ?_
  refine g_istore (L' := (5, .int kv) :: LL C b k0) X dL_law_1134 (by decide) rfl ?_
  refine g_aload_n X dL_law_1136 3 rfl rfl ?_
  refine l_arg X HX (k0 := k0) (j := 1) (p0 := 1) (p4 := 5) (by omega) rfl rfl rfl dL_law_1137 dL_law_1138 dL_law_1140 dL_law_1141 dL_law_1142 ?_
  refine l_arg X HX (k0 := k0) (j := 2) (p0 := 1) (p4 := 5) (by omega) rfl rfl rfl dL_law_1143 dL_law_1144 dL_law_1146 dL_law_1147 dL_law_1148 ?_
  refine c_VIeq (q := 35) (vs := [.int (xs (k0 + 1)), .int (xs (k0 + 2))]) (rest := []) X (kX3_toll (cL C) (xs (k0 + 1)) (xs (k0 + 2)) σ1) (fun s a hts => cwV 2 hts gL_law_X3_toll rfl rfl rfl (by decide +kernel) ⟨Nat.le_of_ble_eq_true rfl, Nat.le_of_ble_eq_true rfl⟩) obj_m (rfl : vwCl[3]? = some (RX3, TX3, 21)) rfl rfl rfl rfl (Nat.le_of_ble_eq_true rfl) dL_law_1149 hr e2 ?_
  refine g_istore (L' := (6, .int bv) :: (5, .int kv) :: LL C b k0) X dL_law_1152 (by decide) rfl ?_
  exact l_tail (p := 1154) X h35 h50 hr rfl rfl rfl rfl dL_law_1154 dL_law_1155 dL_law_1158 dL_law_1160 dL_law_1165 dL_law_1167 dL_law_1170 dL_law_1171 dL_law_1172 dL_law_1173 dL_law_1175 dL_law_1176 dL_law_1177 dL_law_1182 (by decide) (kk σ2 hW)
set_option maxHeartbeats 4000000 in
set_option maxRecDepth 100000 in
theorem law_c15 {C : Ctx} (X : CX C code 7 RL wsL_law room_1 (some .boolean)) {b k0 kc ks : Nat} {σ : Mem} (hr : kc ≤ 1084 ∧ ks ≤ 9122) (hS : WLD σ) (kk : ∀ σ', WLD σ' → G C 7 kc ks 1588 (LL C b k0) [] σ') : G C 7 kc ks 1185 (LL C b k0) [] σ := by
  obtain ⟨bv, σ1, σ2, e1, e2, hW⟩ := st_proof hS
  refine g_aload_n X dL_law_1185 1 rfl rfl ?_
  refine c_VIeq (q := 0) (vs := []) (rest := []) X (kX2_proof (cL C) σ) (fun s a hts => cwV 0 hts gL_law_X2_proof rfl rfl rfl (by decide +kernel) ⟨Nat.le_of_ble_eq_true rfl, Nat.le_of_ble_eq_true rfl⟩) obj_x (rfl : vwCl[2]? = some (RX2, TX2, 15)) rfl rfl rfl rfl (Nat.le_of_ble_eq_true rfl) dL_law_1186 hr e1 ?_
  refine g_aload_n X dL_law_1189 2 rfl rfl ?_
  refine c_VIeq (q := 35) (vs := []) (rest := [.int bv]) X (kX3_proof (cL C) σ1) (fun s a hts => cwV 0 hts gL_law_X3_proof rfl rfl rfl (by decide +kernel) ⟨Nat.le_of_ble_eq_true rfl, Nat.le_of_ble_eq_true rfl⟩) obj_m (rfl : vwCl[3]? = some (RX3, TX3, 21)) rfl rfl rfl rfl (Nat.le_of_ble_eq_true rfl) dL_law_1190 hr e2 ?_
  exact l_icmp_eq (tgt := 1588) X dL_law_1193 (by decide) (fun _ => kk σ2 hW) (fun hc => absurd rfl hc)
