section LC
variable {l : Launch} {K : Nat → ClassId} {D : va_G} {ad bd : Int → Nat} {P : cP} {b L : Nat} {xs : Nat → Int32} {M : GM} {kc ks : Nat} {σ τ : Mem}
theorem lc_honest {n i : Int} (C : LGood l K D ad bd P b L xs M) (h : RR n σ τ) (hR : kc ≤ 600000 ∧ ks ≤ 7302250) (h0 : 0 ≤ i) (h5 : i + 6 ≤ (L : Int)) (k : ∀ σ' τ' : Mem, RR (n + 1) σ' τ' → LG M K ad bd kc ks 1148 [(3, .int (iI i)), (2, .ref (bd 0)), (1, .ref (ad 0)), (0, .ref b)] [] σ' τ') : LG M K ad bd kc ks 888 [(3, .int (iI i)), (2, .ref (bd 0)), (1, .ref (ad 0)), (0, .ref b)] [] σ τ := by
  have ha := a_honest (t := sx xs (i + 1)) (what := sx xs (i + 2)) (σ := σ) (τ := τ) h
  refine l_aload_n C dL_law_888 (p := 2) rfl rfl ?_
  refine l_arg C rfl dL_law_889 rfl dL_law_890 rfl dL_law_891 dL_law_892 dL_law_893 (by omega) (by omega) ?_
  refine l_arg C rfl dL_law_894 rfl dL_law_895 rfl dL_law_896 dL_law_897 dL_law_898 (by omega) (by omega) ?_
  refine l_callC C dL_law_899 (kX8_honest (σ := σ) (t := sx xs (i + 1)) (what := sx xs (i + 2)) C.2.1.1 (cEok P) (q_hH2 h) (q_hT h) (sx_R _ _) (sx_R _ _)) mw_X8_honest wl_L_102 hR (by decide) (by decide) rfl rfl (by simp [Value.category]) ?_
  refine l_aload_n C dL_law_902 (p := 1) rfl rfl ?_
  refine l_arg C rfl dL_law_903 rfl dL_law_904 rfl dL_law_905 dL_law_906 dL_law_907 (by omega) (by omega) ?_
  refine l_arg C rfl dL_law_908 rfl dL_law_909 rfl dL_law_910 dL_law_911 dL_law_912 (by omega) (by omega) ?_
  refine l_callM C dL_law_913 (kX9_honest (σ := τ) (t := sx xs (i + 1)) (what := sx xs (i + 2)) C.2.1.2.1 (cEok P) (p_hT h) (p_hpe h) (sx_R _ _) (sx_R _ _)) mw_X9_honest wl_L_105 hR (by decide) (by decide) rfl rfl (by simp [Value.category]) ?_
  refine l_eq C (tgt := 1148) dL_law_916 (by decide) ha.1 ?_
  exact k _ _ ha.2
theorem lc_ore {n i : Int} (C : LGood l K D ad bd P b L xs M) (h : RR n σ τ) (hR : kc ≤ 600000 ∧ ks ≤ 7302250) (h0 : 0 ≤ i) (h5 : i + 6 ≤ (L : Int)) (k : ∀ σ' τ' : Mem, RR (n + 1) σ' τ' → LG M K ad bd kc ks 1148 [(3, .int (iI i)), (2, .ref (bd 0)), (1, .ref (ad 0)), (0, .ref b)] [] σ' τ') : LG M K ad bd kc ks 921 [(3, .int (iI i)), (2, .ref (bd 0)), (1, .ref (ad 0)), (0, .ref b)] [] σ τ := by
  have ha := a_ore (t := sx xs (i + 1)) (r := sx xs (i + 2)) (σ := σ) (τ := τ) h
  refine l_aload_n C dL_law_921 (p := 2) rfl rfl ?_
  refine l_arg C rfl dL_law_922 rfl dL_law_923 rfl dL_law_924 dL_law_925 dL_law_926 (by omega) (by omega) ?_
  refine l_arg C rfl dL_law_927 rfl dL_law_928 rfl dL_law_929 dL_law_930 dL_law_931 (by omega) (by omega) ?_
  refine l_callC C dL_law_932 (kX8_ore (σ := σ) (t := sx xs (i + 1)) (r := sx xs (i + 2)) C.2.1.1 (cEok P) (q_hH2 h) (q_hT h) (q_hrw h) (q_hit h) (sx_R _ _) (sx_R _ _)) mw_X8_ore wl_L_106 hR (by decide) (by decide) rfl rfl (by simp [Value.category]) ?_
  refine l_aload_n C dL_law_935 (p := 1) rfl rfl ?_
  refine l_arg C rfl dL_law_936 rfl dL_law_937 rfl dL_law_938 dL_law_939 dL_law_940 (by omega) (by omega) ?_
  refine l_arg C rfl dL_law_941 rfl dL_law_942 rfl dL_law_943 dL_law_944 dL_law_945 (by omega) (by omega) ?_
  refine l_callM C dL_law_946 (kX9_ore (σ := τ) (t := sx xs (i + 1)) (r := sx xs (i + 2)) C.2.1.2.1 (cEok P) (p_hT h) (p_hm h) (p_hit h) (sx_R _ _) (sx_R _ _)) mw_X9_ore wl_L_109 hR (by decide) (by decide) rfl rfl (by simp [Value.category]) ?_
  refine l_eq C (tgt := 1148) dL_law_949 (by decide) ha.1 ?_
  exact k _ _ ha.2
theorem lc_image {n i : Int} (C : LGood l K D ad bd P b L xs M) (h : RR n σ τ) (hR : kc ≤ 600000 ∧ ks ≤ 7302250) (h0 : 0 ≤ i) (h5 : i + 6 ≤ (L : Int)) (k : ∀ σ' τ' : Mem, RR (n + 1) σ' τ' → LG M K ad bd kc ks 1148 [(3, .int (iI i)), (2, .ref (bd 0)), (1, .ref (ad 0)), (0, .ref b)] [] σ' τ') : LG M K ad bd kc ks 954 [(3, .int (iI i)), (2, .ref (bd 0)), (1, .ref (ad 0)), (0, .ref b)] [] σ τ := by
  have ha := a_image (k := sx xs (i + 1)) (σ := σ) (τ := τ) h
  refine l_aload_n C dL_law_954 (p := 2) rfl rfl ?_
  refine l_arg C rfl dL_law_955 rfl dL_law_956 rfl dL_law_957 dL_law_958 dL_law_959 (by omega) (by omega) ?_
  refine l_callC C dL_law_960 (kX8_image (σ := σ) (k := sx xs (i + 1)) C.2.1.1 (cEok P) (q_hH h) (q_h2 h) (sx_R _ _)) mw_X8_image wl_L_110 hR (by decide) (by decide) rfl rfl (by simp [Value.category]) ?_
  refine l_aload_n C dL_law_963 (p := 1) rfl rfl ?_
  refine l_arg C rfl dL_law_964 rfl dL_law_965 rfl dL_law_966 dL_law_967 dL_law_968 (by omega) (by omega) ?_
  refine l_callM C dL_law_969 (kX9_image (σ := τ) (k := sx xs (i + 1)) C.2.1.2.1 (cEok P) (p_hp h) (sx_R _ _)) mw_X9_image wl_L_113 hR (by decide) (by decide) rfl rfl (by simp [Value.category]) ?_
  refine l_eq C (tgt := 1148) dL_law_972 (by decide) ha.1 ?_
  exact k _ _ ha.2
theorem lc_restore {n i : Int} (C : LGood l K D ad bd P b L xs M) (h : RR n σ τ) (hR : kc ≤ 600000 ∧ ks ≤ 7302250) (h0 : 0 ≤ i) (h5 : i + 6 ≤ (L : Int)) (k : ∀ σ' τ' : Mem, RR (n + 1) σ' τ' → LG M K ad bd kc ks 1148 [(3, .int (iI i)), (2, .ref (bd 0)), (1, .ref (ad 0)), (0, .ref b)] [] σ' τ') : LG M K ad bd kc ks 977 [(3, .int (iI i)), (2, .ref (bd 0)), (1, .ref (ad 0)), (0, .ref b)] [] σ τ := by
  have ha := a_restore (k := sx xs (i + 1)) (σ := σ) (τ := τ) h
  refine l_aload_n C dL_law_977 (p := 2) rfl rfl ?_
  refine l_arg C rfl dL_law_978 rfl dL_law_979 rfl dL_law_980 dL_law_981 dL_law_982 (by omega) (by omega) ?_
  refine l_callC C dL_law_983 (kX8_restore (σ := σ) (k := sx xs (i + 1)) C.2.1.1 (cEok P) (q_hH h) (q_him h) (sx_R _ _)) mw_X8_restore wl_L_114 hR (by decide) (by decide) rfl rfl (by simp [Value.category]) ?_
  refine l_aload_n C dL_law_986 (p := 1) rfl rfl ?_
  refine l_arg C rfl dL_law_987 rfl dL_law_988 rfl dL_law_989 dL_law_990 dL_law_991 (by omega) (by omega) ?_
  refine l_callM C dL_law_992 (kX9_restore (σ := τ) (k := sx xs (i + 1)) C.2.1.2.1 (cEok P) (p_hkp h) (sx_R _ _)) mw_X9_restore wl_L_117 hR (by decide) (by decide) rfl rfl (by simp [Value.category]) ?_
  refine l_eq C (tgt := 1148) dL_law_995 (by decide) ha.1 ?_
  exact k _ _ ha.2
theorem lc_kind {n i : Int} (C : LGood l K D ad bd P b L xs M) (h : RR n σ τ) (hR : kc ≤ 600000 ∧ ks ≤ 7302250) (h0 : 0 ≤ i) (h5 : i + 6 ≤ (L : Int)) (k : ∀ σ' τ' : Mem, RR (n + 1) σ' τ' → LG M K ad bd kc ks 1148 [(3, .int (iI i)), (2, .ref (bd 0)), (1, .ref (ad 0)), (0, .ref b)] [] σ' τ') : LG M K ad bd kc ks 1000 [(3, .int (iI i)), (2, .ref (bd 0)), (1, .ref (ad 0)), (0, .ref b)] [] σ τ := by
  have ha := a_kind (p := sx xs (i + 1)) (σ := σ) (τ := τ) h
  refine l_aload_n C dL_law_1000 (p := 2) rfl rfl ?_
  refine l_arg C rfl dL_law_1001 rfl dL_law_1002 rfl dL_law_1003 dL_law_1004 dL_law_1005 (by omega) (by omega) ?_
  refine l_callC C dL_law_1006 (kX8_kind (σ := σ) (p := sx xs (i + 1)) C.2.1.1 (cEok P) (q_hH2 h) (q_h2 h) (sx_R _ _)) mw_X8_kind wl_L_118 hR (by decide) (by decide) rfl rfl (by simp [Value.category]) ?_
  refine l_aload_n C dL_law_1009 (p := 1) rfl rfl ?_
  refine l_arg C rfl dL_law_1010 rfl dL_law_1011 rfl dL_law_1012 dL_law_1013 dL_law_1014 (by omega) (by omega) ?_
  refine l_callM C dL_law_1015 (kX9_kind (σ := τ) (p := sx xs (i + 1)) C.2.1.2.1 (cEok P) (p_hp h) (sx_R _ _)) mw_X9_kind wl_L_121 hR (by decide) (by decide) rfl rfl (by simp [Value.category]) ?_
  refine l_eq C (tgt := 1148) dL_law_1018 (by decide) ha.1 ?_
  exact k _ _ ha.2
theorem lc_as {n i : Int} (C : LGood l K D ad bd P b L xs M) (h : RR n σ τ) (hR : kc ≤ 600000 ∧ ks ≤ 7302250) (h0 : 0 ≤ i) (h5 : i + 6 ≤ (L : Int)) (k : ∀ σ' τ' : Mem, RR (n + 1) σ' τ' → LG M K ad bd kc ks 1148 [(3, .int (iI i)), (2, .ref (bd 0)), (1, .ref (ad 0)), (0, .ref b)] [] σ' τ') : LG M K ad bd kc ks 1023 [(3, .int (iI i)), (2, .ref (bd 0)), (1, .ref (ad 0)), (0, .ref b)] [] σ τ := by
  have ha := a_as (p := sx xs (i + 1)) (k := sx xs (i + 2)) (σ := σ) (τ := τ) h
  refine l_aload_n C dL_law_1023 (p := 2) rfl rfl ?_
  refine l_arg C rfl dL_law_1024 rfl dL_law_1025 rfl dL_law_1026 dL_law_1027 dL_law_1028 (by omega) (by omega) ?_
  refine l_arg C rfl dL_law_1029 rfl dL_law_1030 rfl dL_law_1031 dL_law_1032 dL_law_1033 (by omega) (by omega) ?_
  refine l_callC C dL_law_1034 (kX8_as (σ := σ) (p := sx xs (i + 1)) (k := sx xs (i + 2)) (P := P) C.2.1.1 (cEok P) (fun _ _ _ z => z) (q_hH2 h) (q_hT h) (sx_R _ _) (sx_R _ _)) mw_X8_as wl_L_122 hR (by decide) (by decide) rfl rfl (by simp [Value.category]) ?_
  refine l_aload_n C dL_law_1037 (p := 1) rfl rfl ?_
  refine l_arg C rfl dL_law_1038 rfl dL_law_1039 rfl dL_law_1040 dL_law_1041 dL_law_1042 (by omega) (by omega) ?_
  refine l_arg C rfl dL_law_1043 rfl dL_law_1044 rfl dL_law_1045 dL_law_1046 dL_law_1047 (by omega) (by omega) ?_
  refine l_callM C dL_law_1048 (kX9_as (σ := τ) (p := sx xs (i + 1)) (k := sx xs (i + 2)) C.2.1.2.1 (cEok P) (p_hT h) (sx_R _ _) (sx_R _ _)) mw_X9_as wl_L_125 hR (by decide) (by decide) rfl rfl (by simp [Value.category]) ?_
  refine l_eq C (tgt := 1148) dL_law_1051 (by decide) ha.1 ?_
  exact k _ _ ha.2
theorem lc_ask {n i : Int} (C : LGood l K D ad bd P b L xs M) (h : RR n σ τ) (hR : kc ≤ 600000 ∧ ks ≤ 7302250) (h0 : 0 ≤ i) (h5 : i + 6 ≤ (L : Int)) (k : ∀ σ' τ' : Mem, RR (n + 1) σ' τ' → LG M K ad bd kc ks 1148 [(3, .int (iI i)), (2, .ref (bd 0)), (1, .ref (ad 0)), (0, .ref b)] [] σ' τ') : LG M K ad bd kc ks 1056 [(3, .int (iI i)), (2, .ref (bd 0)), (1, .ref (ad 0)), (0, .ref b)] [] σ τ := by
  have ha := a_ask (p := sx xs (i + 1)) (what := sx xs (i + 2)) (σ := σ) (τ := τ) h
  refine l_aload_n C dL_law_1056 (p := 2) rfl rfl ?_
  refine l_arg C rfl dL_law_1057 rfl dL_law_1058 rfl dL_law_1059 dL_law_1060 dL_law_1061 (by omega) (by omega) ?_
  refine l_arg C rfl dL_law_1062 rfl dL_law_1063 rfl dL_law_1064 dL_law_1065 dL_law_1066 (by omega) (by omega) ?_
  refine l_callC C dL_law_1067 (kX8_ask (σ := σ) (p := sx xs (i + 1)) (what := sx xs (i + 2)) (P := P) C.2.1.1 (cEok P) (fun _ _ _ z => z) (q_hH2 h) (q_hT h) (q_hho h) (sx_R _ _) (sx_R _ _)) mw_X8_ask wl_L_126 hR (by decide) (by decide) rfl rfl (by simp [Value.category]) ?_
  refine l_aload_n C dL_law_1070 (p := 1) rfl rfl ?_
  refine l_arg C rfl dL_law_1071 rfl dL_law_1072 rfl dL_law_1073 dL_law_1074 dL_law_1075 (by omega) (by omega) ?_
  refine l_arg C rfl dL_law_1076 rfl dL_law_1077 rfl dL_law_1078 dL_law_1079 dL_law_1080 (by omega) (by omega) ?_
  refine l_callM C dL_law_1081 (kX9_ask (σ := τ) (p := sx xs (i + 1)) (what := sx xs (i + 2)) C.2.1.2.1 (cEok P) (p_hT h) (p_hk1 h) (sx_R _ _) (sx_R _ _)) mw_X9_ask wl_L_129 hR (by decide) (by decide) rfl rfl (by simp [Value.category]) ?_
  refine l_eq C (tgt := 1148) dL_law_1084 (by decide) ha.1 ?_
  exact k _ _ ha.2
theorem lc_trace {n i : Int} (C : LGood l K D ad bd P b L xs M) (h : RR n σ τ) (hR : kc ≤ 600000 ∧ ks ≤ 7302250) (h0 : 0 ≤ i) (h5 : i + 6 ≤ (L : Int)) (k : ∀ σ' τ' : Mem, RR (n + 1) σ' τ' → LG M K ad bd kc ks 1148 [(3, .int (iI i)), (2, .ref (bd 0)), (1, .ref (ad 0)), (0, .ref b)] [] σ' τ') : LG M K ad bd kc ks 1089 [(3, .int (iI i)), (2, .ref (bd 0)), (1, .ref (ad 0)), (0, .ref b)] [] σ τ := by
  have ha := a_trace (i := sx xs (i + 1)) (σ := σ) (τ := τ) h
  refine l_aload_n C dL_law_1089 (p := 2) rfl rfl ?_
  refine l_arg C rfl dL_law_1090 rfl dL_law_1091 rfl dL_law_1092 dL_law_1093 dL_law_1094 (by omega) (by omega) ?_
  refine l_callC C dL_law_1095 (kX8_trace (σ := σ) (i := sx xs (i + 1)) C.2.1.1 (cEok P) (q_htr h) (sx_R _ _)) mw_X8_trace wl_L_130 hR (by decide) (by decide) rfl rfl (by simp [Value.category]) ?_
  refine l_aload_n C dL_law_1098 (p := 1) rfl rfl ?_
  refine l_arg C rfl dL_law_1099 rfl dL_law_1100 rfl dL_law_1101 dL_law_1102 dL_law_1103 (by omega) (by omega) ?_
  refine l_callM C dL_law_1104 (kX9_trace (σ := τ) (i := sx xs (i + 1)) C.2.1.2.1 (cEok P) (p_htr h) (sx_R _ _)) mw_X9_trace wl_L_133 hR (by decide) (by decide) rfl rfl (by simp [Value.category]) ?_
  refine l_eq C (tgt := 1148) dL_law_1107 (by decide) ha.1 ?_
  exact k _ _ ha.2
theorem lc_count {n i : Int} (C : LGood l K D ad bd P b L xs M) (h : RR n σ τ) (hR : kc ≤ 600000 ∧ ks ≤ 7302250) (h0 : 0 ≤ i) (h5 : i + 6 ≤ (L : Int)) (k : ∀ σ' τ' : Mem, RR (n + 1) σ' τ' → LG M K ad bd kc ks 1148 [(3, .int (iI i)), (2, .ref (bd 0)), (1, .ref (ad 0)), (0, .ref b)] [] σ' τ') : LG M K ad bd kc ks 1112 [(3, .int (iI i)), (2, .ref (bd 0)), (1, .ref (ad 0)), (0, .ref b)] [] σ τ := by
  have ha := a_count (what := sx xs (i + 1)) (σ := σ) (τ := τ) h
  refine l_aload_n C dL_law_1112 (p := 2) rfl rfl ?_
  refine l_arg C rfl dL_law_1113 rfl dL_law_1114 rfl dL_law_1115 dL_law_1116 dL_law_1117 (by omega) (by omega) ?_
  refine l_callC C dL_law_1118 (kX8_count (σ := σ) (what := sx xs (i + 1)) C.2.1.1 (cEok P) (q_hH2 h) (q_hT h) (q_hrw h) (q_hho h) (sx_R _ _)) mw_X8_count wl_L_134 hR (by decide) (by decide) rfl rfl (by simp [Value.category]) ?_
  refine l_aload_n C dL_law_1121 (p := 1) rfl rfl ?_
  refine l_arg C rfl dL_law_1122 rfl dL_law_1123 rfl dL_law_1124 dL_law_1125 dL_law_1126 (by omega) (by omega) ?_
  refine l_callM C dL_law_1127 (kX9_count (σ := τ) (what := sx xs (i + 1)) C.2.1.2.1 (cEok P) (p_hT h) (p_hm h) (sx_R _ _)) mw_X9_count wl_L_137 hR (by decide) (by decide) rfl rfl (by simp [Value.category]) ?_
  refine l_eq C (tgt := 1148) dL_law_1130 (by decide) ha.1 ?_
  exact k _ _ ha.2
theorem lc_status {n i : Int} (C : LGood l K D ad bd P b L xs M) (h : RR n σ τ) (hR : kc ≤ 600000 ∧ ks ≤ 7302250) (h0 : 0 ≤ i) (h5 : i + 6 ≤ (L : Int)) (k : ∀ σ' τ' : Mem, RR (n + 1) σ' τ' → LG M K ad bd kc ks 1148 [(3, .int (iI i)), (2, .ref (bd 0)), (1, .ref (ad 0)), (0, .ref b)] [] σ' τ') : LG M K ad bd kc ks 1135 [(3, .int (iI i)), (2, .ref (bd 0)), (1, .ref (ad 0)), (0, .ref b)] [] σ τ := by
  have ha := a_status (σ := σ) (τ := τ) h
  refine l_aload_n C dL_law_1135 (p := 2) rfl rfl ?_
  refine l_callC C dL_law_1136 (kX8_status (σ := σ)  C.2.1.1 (cEok P) ) mw_X8_status wl_L_138 hR (by decide) (by decide) rfl rfl (by simp [Value.category]) ?_
  refine l_aload_n C dL_law_1139 (p := 1) rfl rfl ?_
  refine l_callM C dL_law_1140 (kX9_status (σ := τ)  C.2.1.2.1 (cEok P) ) mw_X9_status wl_L_141 hR (by decide) (by decide) rfl rfl (by simp [Value.category]) ?_
  refine l_eq C (tgt := 1148) dL_law_1143 (by decide) ha.1 ?_
  exact k _ _ ha.2
end LC
