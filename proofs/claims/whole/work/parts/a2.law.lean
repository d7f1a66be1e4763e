/-! THE LAW'S WALK: the calls, 2 -/
section LC
variable {x : Cxt} {b L i kc ks T : Nat} {xs : Nat → Int32} {A : Nat → Nat → Nat → Nat} {h : Hp} {σ ρ : Zs}
theorem law_held (hsc : scrOk x b L xs) (hrm : m_rm 2048 177588 8563342 x) (hL : L ≤ 3072) (hi : i + 6 ≤ L) (hz : Rp A h σ ρ) (hR : Rel T σ ρ) (h1 : kc + 3 * T + 210 ≤ 177588) (h2 : ks + 22 * T + 8000 ≤ 8563342) (nx : NX x b i T kc ks) : wp x mLaw 935 (LI b A i) [] h kc ks := by
  obtain ⟨P, Q, S, g, Lg, d, X, hRl⟩ := id hR
  obtain ⟨v, σ1, w, ρ1, e1, e2, hA, hR1⟩ := f_held hRl (xs (i + 1)) (xs (i + 2))
  refine w_aload_n 3 dL_law_935 rfl rfl rfl ?_
  refine w_sarg (c := 1) 4 0 hsc hL (by omega) rfl rfl rfl dL_law_936 dL_law_937 dL_law_939 dL_law_940 dL_law_941 rfl ?_
  refine w_sarg (c := 2) 4 0 hsc hL (by omega) rfl rfl rfl dL_law_942 dL_law_943 dL_law_945 dL_law_946 dL_law_947 rfl ?_
  refine w_aload_n 1 dL_law_948 rfl rfl rfl ?_
  refine c_L_146 (b := 0) (As := [.ref (A 11 0 0), .int (xs (i + 1)), .int (xs (i + 2)), .ref (A 1984 0 0)]) (rest := []) (fun l => s_L_held hz e1 (ans_E hA) l) hrm dL_law_949 rfl rfl (by decide) (by omega) (by omega) rfl (by decide) (fun vr h9 hq => ?_) (fun _ _ hq => hq.elim)
  obtain ⟨rfl, hz1⟩ := qw_n hq
  refine w_istore ((5, .int (kO ["java/lang/IndexOutOfBoundsException"] (toJ v))) :: LI b A i) dL_law_952 rfl (by decide) rfl ?_
  refine w_aload_n 3 dL_law_954 rfl rfl rfl ?_
  refine w_sarg (c := 1) 5 1 hsc hL (by omega) rfl rfl rfl dL_law_955 dL_law_956 dL_law_958 dL_law_959 dL_law_960 rfl ?_
  refine w_sarg (c := 2) 5 1 hsc hL (by omega) rfl rfl rfl dL_law_961 dL_law_962 dL_law_964 dL_law_965 dL_law_966 rfl ?_
  refine c_L_148 (b := A 14 0 0) (As := [.int (xs (i + 1)), .int (xs (i + 2))]) (rest := []) (fun l => s_X14_held hz1 e2 l) hrm dL_law_967 rfl rfl (by decide) (by omega) (by omega) (hz1.o14 rfl) rfl (by decide) (fun vr h9 hq => ?_) (fun _ _ hq => hq.elim)
  obtain ⟨rfl, hz2⟩ := hq
  exact tail_i (p := 970) hrm hz2 (ans_I hA) cn_I (by omega) (by omega) dL_law_970 dL_law_972 dL_law_973 dL_law_976 dL_law_978 dL_law_983 dL_law_985 dL_law_988 dL_law_989 dL_law_990 dL_law_991 dL_law_993 dL_law_994 dL_law_995 dL_law_1000 (by decide) (fun h9 hz3 => nx A h9 (oS (toJ v) σ1) ρ1 (T) _ _ hz3 (rel_o hR1) (by omega) (by omega))
theorem law_heldValue (hsc : scrOk x b L xs) (hrm : m_rm 2048 177588 8563342 x) (hL : L ≤ 3072) (hi : i + 6 ≤ L) (hz : Rp A h σ ρ) (hR : Rel T σ ρ) (h1 : kc + 3 * T + 210 ≤ 177588) (h2 : ks + 22 * T + 8000 ≤ 8563342) (nx : NX x b i T kc ks) : wp x mLaw 1003 (LI b A i) [] h kc ks := by
  obtain ⟨P, Q, S, g, Lg, d, X, hRl⟩ := id hR
  obtain ⟨v, σ1, w, ρ1, e1, e2, hA, hR1⟩ := f_heldValue hRl (xs (i + 1)) (xs (i + 2))
  refine w_aload_n 3 dL_law_1003 rfl rfl rfl ?_
  refine w_sarg (c := 1) 4 0 hsc hL (by omega) rfl rfl rfl dL_law_1004 dL_law_1005 dL_law_1007 dL_law_1008 dL_law_1009 rfl ?_
  refine w_sarg (c := 2) 4 0 hsc hL (by omega) rfl rfl rfl dL_law_1010 dL_law_1011 dL_law_1013 dL_law_1014 dL_law_1015 rfl ?_
  refine w_aload_n 1 dL_law_1016 rfl rfl rfl ?_
  refine c_L_149 (b := 0) (As := [.ref (A 11 0 0), .int (xs (i + 1)), .int (xs (i + 2)), .ref (A 1984 0 0)]) (rest := []) (fun l => s_L_heldValue hz e1 (ans_E hA) l) hrm dL_law_1017 rfl rfl (by decide) (by omega) (by omega) rfl (by decide) (fun vr h9 hq => ?_) (fun _ _ hq => hq.elim)
  obtain ⟨rfl, hz1⟩ := qw_n hq
  refine w_istore ((5, .int (kO ["java/lang/IndexOutOfBoundsException"] v)) :: LI b A i) dL_law_1020 rfl (by decide) rfl ?_
  refine w_aload_n 3 dL_law_1022 rfl rfl rfl ?_
  refine w_sarg (c := 1) 5 1 hsc hL (by omega) rfl rfl rfl dL_law_1023 dL_law_1024 dL_law_1026 dL_law_1027 dL_law_1028 rfl ?_
  refine w_sarg (c := 2) 5 1 hsc hL (by omega) rfl rfl rfl dL_law_1029 dL_law_1030 dL_law_1032 dL_law_1033 dL_law_1034 rfl ?_
  refine c_L_151 (b := A 14 0 0) (As := [.int (xs (i + 1)), .int (xs (i + 2))]) (rest := []) (fun l => s_X14_heldValue hz1 e2 l) hrm dL_law_1035 rfl rfl (by decide) (by omega) (by omega) (hz1.o14 rfl) rfl (by decide) (fun vr h9 hq => ?_) (fun _ _ hq => hq.elim)
  obtain ⟨rfl, hz2⟩ := hq
  exact tail_j (p := 1038) hrm hz2 hA cn_I (by omega) (by omega) dL_law_1038 dL_law_1040 dL_law_1041 dL_law_1044 dL_law_1046 dL_law_1051 dL_law_1053 dL_law_1056 dL_law_1057 dL_law_1058 dL_law_1059 dL_law_1061 dL_law_1062 dL_law_1067 (by decide) (fun h9 hz3 => nx A h9 (oS v σ1) ρ1 (T) _ _ hz3 (rel_o hR1) (by omega) (by omega))
theorem law_release (hsc : scrOk x b L xs) (hrm : m_rm 2048 177588 8563342 x) (hL : L ≤ 3072) (hi : i + 6 ≤ L) (hz : Rp A h σ ρ) (hR : Rel T σ ρ) (h1 : kc + 3 * T + 210 ≤ 177588) (h2 : ks + 22 * T + 8000 ≤ 8563342) (nx : NX x b i T kc ks) : wp x mLaw 1070 (LI b A i) [] h kc ks := by
  obtain ⟨P, Q, S, g, Lg, d, X, hRl⟩ := id hR
  obtain ⟨v, σ1, w, ρ1, e1, e2, hA, hR1⟩ := f_release hRl (xs (i + 1))
  refine w_aload_n 3 dL_law_1070 rfl rfl rfl ?_
  refine w_sarg (c := 1) 4 0 hsc hL (by omega) rfl rfl rfl dL_law_1071 dL_law_1072 dL_law_1074 dL_law_1075 dL_law_1076 rfl ?_
  refine w_aload_n 1 dL_law_1077 rfl rfl rfl ?_
  refine c_L_152 (b := 0) (As := [.ref (A 11 0 0), .int (xs (i + 1)), .ref (A 1984 0 0)]) (rest := []) (fun l => s_L_release hz e1 (ans_E hA) l) hrm dL_law_1078 rfl rfl (by decide) (by omega) (by omega) rfl (by decide) (fun vr h9 hq => ?_) (fun _ _ hq => hq.elim)
  obtain ⟨rfl, hz1⟩ := qw_n hq
  refine w_istore ((5, .int (kO ["java/lang/IndexOutOfBoundsException", "java/lang/IllegalStateException"] (toJ v))) :: LI b A i) dL_law_1081 rfl (by decide) rfl ?_
  refine w_aload_n 3 dL_law_1083 rfl rfl rfl ?_
  refine w_sarg (c := 1) 5 1 hsc hL (by omega) rfl rfl rfl dL_law_1084 dL_law_1085 dL_law_1087 dL_law_1088 dL_law_1089 rfl ?_
  refine c_L_154 (b := A 14 0 0) (As := [.int (xs (i + 1))]) (rest := []) (fun l => s_X14_release hz1 e2 l) hrm dL_law_1090 rfl rfl (by decide) (by omega) (by omega) (hz1.o14 rfl) rfl (by decide) (fun vr h9 hq => ?_) (fun _ _ hq => hq.elim)
  obtain ⟨rfl, hz2⟩ := hq
  exact tail_i (p := 1093) hrm hz2 (ans_I hA) cn_IS (by omega) (by omega) dL_law_1093 dL_law_1095 dL_law_1096 dL_law_1099 dL_law_1101 dL_law_1106 dL_law_1108 dL_law_1111 dL_law_1112 dL_law_1113 dL_law_1114 dL_law_1116 dL_law_1117 dL_law_1118 dL_law_1123 (by decide) (fun h9 hz3 => nx A h9 (oS (toJ v) σ1) ρ1 (T) _ _ hz3 (rel_o hR1) (by omega) (by omega))
theorem law_discard (hsc : scrOk x b L xs) (hrm : m_rm 2048 177588 8563342 x) (hL : L ≤ 3072) (hi : i + 6 ≤ L) (hz : Rp A h σ ρ) (hR : Rel T σ ρ) (h1 : kc + 3 * T + 210 ≤ 177588) (h2 : ks + 22 * T + 8000 ≤ 8563342) (nx : NX x b i T kc ks) : wp x mLaw 1126 (LI b A i) [] h kc ks := by
  obtain ⟨P, Q, S, g, Lg, d, X, hRl⟩ := id hR
  obtain ⟨v, σ1, w, ρ1, e1, e2, hA, hR1⟩ := f_discard hRl (xs (i + 1))
  refine w_aload_n 3 dL_law_1126 rfl rfl rfl ?_
  refine w_sarg (c := 1) 4 0 hsc hL (by omega) rfl rfl rfl dL_law_1127 dL_law_1128 dL_law_1130 dL_law_1131 dL_law_1132 rfl ?_
  refine w_aload_n 1 dL_law_1133 rfl rfl rfl ?_
  refine c_L_155 (b := 0) (As := [.ref (A 11 0 0), .int (xs (i + 1)), .ref (A 1984 0 0)]) (rest := []) (fun l => s_L_discard hz e1 (ans_E hA) l) hrm dL_law_1134 rfl rfl (by decide) (by omega) (by omega) rfl (by decide) (fun vr h9 hq => ?_) (fun _ _ hq => hq.elim)
  obtain ⟨rfl, hz1⟩ := qw_n hq
  refine w_istore ((5, .int (kO ["java/lang/IndexOutOfBoundsException", "java/lang/IllegalStateException"] (toJ v))) :: LI b A i) dL_law_1137 rfl (by decide) rfl ?_
  refine w_aload_n 3 dL_law_1139 rfl rfl rfl ?_
  refine w_sarg (c := 1) 5 1 hsc hL (by omega) rfl rfl rfl dL_law_1140 dL_law_1141 dL_law_1143 dL_law_1144 dL_law_1145 rfl ?_
  refine c_L_157 (b := A 14 0 0) (As := [.int (xs (i + 1))]) (rest := []) (fun l => s_X14_discard hz1 e2 l) hrm dL_law_1146 rfl rfl (by decide) (by omega) (by omega) (hz1.o14 rfl) rfl (by decide) (fun vr h9 hq => ?_) (fun _ _ hq => hq.elim)
  obtain ⟨rfl, hz2⟩ := hq
  exact tail_i (p := 1149) hrm hz2 (ans_I hA) cn_IS (by omega) (by omega) dL_law_1149 dL_law_1151 dL_law_1152 dL_law_1155 dL_law_1157 dL_law_1162 dL_law_1164 dL_law_1167 dL_law_1168 dL_law_1169 dL_law_1170 dL_law_1172 dL_law_1173 dL_law_1174 dL_law_1179 (by decide) (fun h9 hz3 => nx A h9 (oS (toJ v) σ1) ρ1 (T) _ _ hz3 (rel_o hR1) (by omega) (by omega))
theorem law_broken (hsc : scrOk x b L xs) (hrm : m_rm 2048 177588 8563342 x) (hL : L ≤ 3072) (hi : i + 6 ≤ L) (hz : Rp A h σ ρ) (hR : Rel T σ ρ) (h1 : kc + 3 * T + 210 ≤ 177588) (h2 : ks + 22 * T + 8000 ≤ 8563342) (nx : NX x b i T kc ks) : wp x mLaw 1182 (LI b A i) [] h kc ks := by
  obtain ⟨P, Q, S, g, Lg, d, X, hRl⟩ := id hR
  obtain ⟨v, σ1, w, ρ1, e1, e2, hA, hR1⟩ := f_broken hRl (xs (i + 1))
  refine w_aload_n 3 dL_law_1182 rfl rfl rfl ?_
  refine w_sarg (c := 1) 4 0 hsc hL (by omega) rfl rfl rfl dL_law_1183 dL_law_1184 dL_law_1186 dL_law_1187 dL_law_1188 rfl ?_
  refine w_aload_n 1 dL_law_1189 rfl rfl rfl ?_
  refine c_L_158 (b := 0) (As := [.ref (A 11 0 0), .int (xs (i + 1)), .ref (A 1984 0 0)]) (rest := []) (fun l => s_L_broken hz e1 (ans_E hA) l) hrm dL_law_1190 rfl rfl (by decide) (by omega) (by omega) rfl (by decide) (fun vr h9 hq => ?_) (fun _ _ hq => hq.elim)
  obtain ⟨rfl, hz1⟩ := qw_n hq
  refine w_istore ((5, .int (kO ["java/lang/IndexOutOfBoundsException"] (toJ v))) :: LI b A i) dL_law_1193 rfl (by decide) rfl ?_
  refine w_aload_n 3 dL_law_1195 rfl rfl rfl ?_
  refine w_sarg (c := 1) 5 1 hsc hL (by omega) rfl rfl rfl dL_law_1196 dL_law_1197 dL_law_1199 dL_law_1200 dL_law_1201 rfl ?_
  refine c_L_160 (b := A 14 0 0) (As := [.int (xs (i + 1))]) (rest := []) (fun l => s_X14_broken hz1 e2 l) hrm dL_law_1202 rfl rfl (by decide) (by omega) (by omega) (hz1.o14 rfl) rfl (by decide) (fun vr h9 hq => ?_) (fun _ _ hq => hq.elim)
  obtain ⟨rfl, hz2⟩ := hq
  exact tail_i (p := 1205) hrm hz2 (ans_I hA) cn_I (by omega) (by omega) dL_law_1205 dL_law_1207 dL_law_1208 dL_law_1211 dL_law_1213 dL_law_1218 dL_law_1220 dL_law_1223 dL_law_1224 dL_law_1225 dL_law_1226 dL_law_1228 dL_law_1229 dL_law_1230 dL_law_1235 (by decide) (fun h9 hz3 => nx A h9 (oS (toJ v) σ1) ρ1 (T) _ _ hz3 (rel_o hR1) (by omega) (by omega))
theorem law_go (hsc : scrOk x b L xs) (hrm : m_rm 2048 177588 8563342 x) (hL : L ≤ 3072) (hi : i + 6 ≤ L) (hz : Rp A h σ ρ) (hR : Rel T σ ρ) (h1 : kc + 3 * T + 210 ≤ 177588) (h2 : ks + 22 * T + 8000 ≤ 8563342) (nx : NX x b i T kc ks) : wp x mLaw 1264 (LI b A i) [] h kc ks := by
  obtain ⟨P, Q, S, g, Lg, d, X, hRl⟩ := id hR
  obtain ⟨v, σ1, w, ρ1, e1, e2, hA, hR1⟩ := f_go hRl
  refine w_aload_n 3 dL_law_1264 rfl rfl rfl ?_
  refine w_aload_n 1 dL_law_1265 rfl rfl rfl ?_
  refine c_L_170 (b := 0) (As := [.ref (A 11 0 0), .ref (A 1984 0 0)]) (rest := []) (fun l => s_L_go hz e1 (ans_E hA) l) hrm dL_law_1266 rfl rfl (by decide) (by omega) (by omega) rfl (by decide) (fun vr h9 hq => ?_) (fun _ _ hq => hq.elim)
  obtain ⟨rfl, hz1⟩ := qw_n hq
  refine w_istore ((5, .int (kO ["java/lang/IllegalStateException"] (toJ v))) :: LI b A i) dL_law_1269 rfl (by decide) rfl ?_
  refine w_aload_n 3 dL_law_1271 rfl rfl rfl ?_
  refine c_L_173 (b := A 14 0 0) (As := []) (rest := []) (fun l => s_X14_go hz1 e2 l) hrm dL_law_1272 rfl rfl (by decide) (by omega) (by omega) (hz1.o14 rfl) rfl (by decide) (fun vr h9 hq => ?_) (fun _ _ hq => hq.elim)
  obtain ⟨rfl, hz2⟩ := hq
  exact tail_i (p := 1275) hrm hz2 (ans_I hA) cn_S (by omega) (by omega) dL_law_1275 dL_law_1277 dL_law_1278 dL_law_1281 dL_law_1283 dL_law_1288 dL_law_1290 dL_law_1293 dL_law_1294 dL_law_1295 dL_law_1296 dL_law_1298 dL_law_1299 dL_law_1300 dL_law_1305 (by decide) (fun h9 hz3 => nx A h9 (oS (toJ v) σ1) ρ1 (T) _ _ hz3 (rel_o hR1) (by omega) (by omega))
theorem law_mark (hsc : scrOk x b L xs) (hrm : m_rm 2048 177588 8563342 x) (hL : L ≤ 3072) (hi : i + 6 ≤ L) (hz : Rp A h σ ρ) (hR : Rel T σ ρ) (h1 : kc + 3 * T + 210 ≤ 177588) (h2 : ks + 22 * T + 8000 ≤ 8563342) (nx : NX x b i T kc ks) : wp x mLaw 1308 (LI b A i) [] h kc ks := by
  obtain ⟨P, Q, S, g, Lg, d, X, hRl⟩ := id hR
  obtain ⟨v, σ1, w, ρ1, e1, e2, hA, hR1⟩ := f_mark hRl
  refine w_aload_n 3 dL_law_1308 rfl rfl rfl ?_
  refine w_aload_n 1 dL_law_1309 rfl rfl rfl ?_
  refine c_L_174 (b := 0) (As := [.ref (A 11 0 0), .ref (A 1984 0 0)]) (rest := []) (fun l => s_L_mark hz e1 (ans_E hA) l) hrm dL_law_1310 rfl rfl (by decide) (by omega) (by omega) rfl (by decide) (fun vr h9 hq => ?_) (fun _ _ hq => hq.elim)
  obtain ⟨rfl, hz1⟩ := qw_n hq
  refine w_istore ((5, .int (kO ["java/lang/IllegalStateException"] (toJ v))) :: LI b A i) dL_law_1313 rfl (by decide) rfl ?_
  refine w_aload_n 3 dL_law_1315 rfl rfl rfl ?_
  refine c_L_176 (b := A 14 0 0) (As := []) (rest := []) (fun l => s_X14_mark hz1 e2 l) hrm dL_law_1316 rfl rfl (by decide) (by omega) (by omega) (hz1.o14 rfl) rfl (by decide) (fun vr h9 hq => ?_) (fun _ _ hq => hq.elim)
  obtain ⟨rfl, hz2⟩ := hq
  exact tail_i (p := 1319) hrm hz2 (ans_I hA) cn_S (by omega) (by omega) dL_law_1319 dL_law_1321 dL_law_1322 dL_law_1325 dL_law_1327 dL_law_1332 dL_law_1334 dL_law_1337 dL_law_1338 dL_law_1339 dL_law_1340 dL_law_1342 dL_law_1343 dL_law_1344 dL_law_1349 (by decide) (fun h9 hz3 => nx A h9 (oS (toJ v) σ1) ρ1 (T) _ _ hz3 (rel_o hR1) (by omega) (by omega))
theorem law_back (hsc : scrOk x b L xs) (hrm : m_rm 2048 177588 8563342 x) (hL : L ≤ 3072) (hi : i + 6 ≤ L) (hz : Rp A h σ ρ) (hR : Rel T σ ρ) (h1 : kc + 3 * T + 210 ≤ 177588) (h2 : ks + 22 * T + 8000 ≤ 8563342) (nx : NX x b i T kc ks) : wp x mLaw 1352 (LI b A i) [] h kc ks := by
  obtain ⟨P, Q, S, g, Lg, d, X, hRl⟩ := id hR
  obtain ⟨v, σ1, w, ρ1, e1, e2, hA, hR1⟩ := f_back hRl (xs (i + 1))
  refine w_aload_n 3 dL_law_1352 rfl rfl rfl ?_
  refine w_sarg (c := 1) 4 0 hsc hL (by omega) rfl rfl rfl dL_law_1353 dL_law_1354 dL_law_1356 dL_law_1357 dL_law_1358 rfl ?_
  refine w_aload_n 1 dL_law_1359 rfl rfl rfl ?_
  refine c_L_177 (b := 0) (As := [.ref (A 11 0 0), .int (xs (i + 1)), .ref (A 1984 0 0)]) (rest := []) (fun l => s_L_back hz e1 (ans_E hA) l) hrm dL_law_1360 rfl rfl (by decide) (by omega) (by omega) rfl (by decide) (fun vr h9 hq => ?_) (fun _ _ hq => hq.elim)
  obtain ⟨rfl, hz1⟩ := qw_n hq
  refine w_istore ((5, .int (kO ["java/lang/IndexOutOfBoundsException"] (toJ v))) :: LI b A i) dL_law_1363 rfl (by decide) rfl ?_
  refine w_aload_n 3 dL_law_1365 rfl rfl rfl ?_
  refine w_sarg (c := 1) 5 1 hsc hL (by omega) rfl rfl rfl dL_law_1366 dL_law_1367 dL_law_1369 dL_law_1370 dL_law_1371 rfl ?_
  refine c_L_179 (b := A 14 0 0) (As := [.int (xs (i + 1))]) (rest := []) (fun l => s_X14_back hz1 e2 l) hrm dL_law_1372 rfl rfl (by decide) (by omega) (by omega) (hz1.o14 rfl) rfl (by decide) (fun vr h9 hq => ?_) (fun _ _ hq => hq.elim)
  obtain ⟨rfl, hz2⟩ := hq
  exact tail_i (p := 1375) hrm hz2 (ans_I hA) cn_I (by omega) (by omega) dL_law_1375 dL_law_1377 dL_law_1378 dL_law_1381 dL_law_1383 dL_law_1388 dL_law_1390 dL_law_1393 dL_law_1394 dL_law_1395 dL_law_1396 dL_law_1398 dL_law_1399 dL_law_1400 dL_law_1405 (by decide) (fun h9 hz3 => nx A h9 (oS (toJ v) σ1) ρ1 (T) _ _ hz3 (rel_o hR1) (by omega) (by omega))
theorem law_replay (hsc : scrOk x b L xs) (hrm : m_rm 2048 177588 8563342 x) (hL : L ≤ 3072) (hi : i + 6 ≤ L) (hz : Rp A h σ ρ) (hR : Rel T σ ρ) (h1 : kc + 3 * T + 210 ≤ 177588) (h2 : ks + 22 * T + 8000 ≤ 8563342) (nx : NX x b i T kc ks) : wp x mLaw 1408 (LI b A i) [] h kc ks := by
  obtain ⟨P, Q, S, g, Lg, d, X, hRl⟩ := id hR
  obtain ⟨v, σ1, w, ρ1, e1, e2, hA, hR1⟩ := f_replay hRl
  refine w_aload_n 3 dL_law_1408 rfl rfl rfl ?_
  refine w_aload_n 1 dL_law_1409 rfl rfl rfl ?_
  refine c_L_180 (b := 0) (As := [.ref (A 11 0 0), .ref (A 1984 0 0)]) (rest := []) (fun l => s_L_replay hz e1 (ans_E hA) l) hrm dL_law_1410 rfl rfl (by decide) (by omega) (by omega) rfl (by decide) (fun vr h9 hq => ?_) (fun _ _ hq => hq.elim)
  obtain ⟨rfl, hz1⟩ := qw_n hq
  refine w_istore ((5, .int (kO ["java/lang/IllegalStateException"] (toJ v))) :: LI b A i) dL_law_1413 rfl (by decide) rfl ?_
  refine w_aload_n 3 dL_law_1415 rfl rfl rfl ?_
  refine c_L_182 (b := A 14 0 0) (As := []) (rest := []) (fun l => s_X14_replay hz1 e2 l) hrm dL_law_1416 rfl rfl (by decide) (by omega) (by omega) (hz1.o14 rfl) rfl (by decide) (fun vr h9 hq => ?_) (fun _ _ hq => hq.elim)
  obtain ⟨rfl, hz2⟩ := hq
  exact tail_i (p := 1419) hrm hz2 (ans_I hA) cn_S (by omega) (by omega) dL_law_1419 dL_law_1421 dL_law_1422 dL_law_1425 dL_law_1427 dL_law_1432 dL_law_1434 dL_law_1437 dL_law_1438 dL_law_1439 dL_law_1440 dL_law_1442 dL_law_1443 dL_law_1444 dL_law_1449 (by decide) (fun h9 hz3 => nx A h9 (oS (toJ v) σ1) ρ1 (T) _ _ hz3 (rel_o hR1) (by omega) (by omega))
theorem law_changed (hsc : scrOk x b L xs) (hrm : m_rm 2048 177588 8563342 x) (hL : L ≤ 3072) (hi : i + 6 ≤ L) (hz : Rp A h σ ρ) (hR : Rel T σ ρ) (h1 : kc + 3 * T + 210 ≤ 177588) (h2 : ks + 22 * T + 8000 ≤ 8563342) (nx : NX x b i T kc ks) : wp x mLaw 1452 (LI b A i) [] h kc ks := by
  obtain ⟨P, Q, S, g, Lg, d, X, hRl⟩ := id hR
  obtain ⟨v, σ1, w, ρ1, e1, e2, hA, hR1⟩ := f_changed hRl (xs (i + 1))
  refine w_aload_n 3 dL_law_1452 rfl rfl rfl ?_
  refine w_sarg (c := 1) 4 0 hsc hL (by omega) rfl rfl rfl dL_law_1453 dL_law_1454 dL_law_1456 dL_law_1457 dL_law_1458 rfl ?_
  refine w_aload_n 1 dL_law_1459 rfl rfl rfl ?_
  refine c_L_183 (b := 0) (As := [.ref (A 11 0 0), .int (xs (i + 1)), .ref (A 1984 0 0)]) (rest := []) (fun l => s_L_changed hz e1 (ans_E hA) l) hrm dL_law_1460 rfl rfl (by decide) (by omega) (by omega) rfl (by decide) (fun vr h9 hq => ?_) (fun _ _ hq => hq.elim)
  obtain ⟨rfl, hz1⟩ := qw_n hq
  refine w_istore ((5, .int (kO ["java/lang/IndexOutOfBoundsException"] (toJ v))) :: LI b A i) dL_law_1463 rfl (by decide) rfl ?_
  refine w_aload_n 3 dL_law_1465 rfl rfl rfl ?_
  refine w_sarg (c := 1) 5 1 hsc hL (by omega) rfl rfl rfl dL_law_1466 dL_law_1467 dL_law_1469 dL_law_1470 dL_law_1471 rfl ?_
  refine c_L_185 (b := A 14 0 0) (As := [.int (xs (i + 1))]) (rest := []) (fun l => s_X14_changed hz1 e2 l) hrm dL_law_1472 rfl rfl (by decide) (by omega) (by omega) (hz1.o14 rfl) rfl (by decide) (fun vr h9 hq => ?_) (fun _ _ hq => hq.elim)
  obtain ⟨rfl, hz2⟩ := hq
  exact tail_i (p := 1475) hrm hz2 (ans_I hA) cn_I (by omega) (by omega) dL_law_1475 dL_law_1477 dL_law_1478 dL_law_1481 dL_law_1483 dL_law_1488 dL_law_1490 dL_law_1493 dL_law_1494 dL_law_1495 dL_law_1496 dL_law_1498 dL_law_1499 dL_law_1500 dL_law_1505 (by decide) (fun h9 hz3 => nx A h9 (oS (toJ v) σ1) ρ1 (T) _ _ hz3 (rel_o hR1) (by omega) (by omega))
end LC
