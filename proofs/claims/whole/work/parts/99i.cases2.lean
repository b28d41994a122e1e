section LawCases
variable {K : KT} {c9 s9 b Ln : Nat} {xs : Nat → Int32} {i : Int} {v5 v6 : Vv} {mu : Mem} {V : FV} {a : Int} {H : Nat → FV}
theorem lc_set (C : CX K (NC, c9, s9) mL_law 15) (hc : Lc K b Ln xs i) (I : Iv mu V a H) (kk : Kon K c9 s9 b i) : AW K mL_law (NC, c9, s9) 1060 (LL b i v5 v6) [] mu := by
  obtain ⟨hX, hL, i0, i1⟩ := hc
  refine aw_aload_n C dL_law_1060 rfl ?_
  refine aw_arg C hX hL rfl rfl i0 i1 (by decide) (by decide) dL_law_1061 dL_law_1062 dL_law_1064 dL_law_1065 dL_law_1066 ?_
  refine aw_arg C hX hL rfl rfl i0 i1 (by decide) (by decide) dL_law_1067 dL_law_1068 dL_law_1070 dL_law_1071 dL_law_1072 ?_
  refine aw_arg C hX hL rfl rfl i0 i1 (by decide) (by decide) dL_law_1073 dL_law_1074 dL_law_1076 dL_law_1077 dL_law_1078 ?_
  refine aw_call C dL_law_1079 lL_117 vX5_set (t_X5_set I.1 (r32i _) (r32i _) (r32i _)) rfl rfl rfl ⟨rfl, lt77_0⟩ rfl ⟨by decide, by decide⟩ (Nat.le_of_ble_eq_true rfl) (fun r m1 hq => ?_)
  obtain ⟨rfl, hA⟩ := hq
  obtain ⟨S1, ha, hG, hB⟩ := I.am hA.2.1
  refine aw_aload_n C dL_law_1082 rfl ?_
  refine aw_arg C hX hL rfl rfl i0 i1 (by decide) (by decide) dL_law_1083 dL_law_1084 dL_law_1086 dL_law_1087 dL_law_1088 ?_
  refine aw_arg C hX hL rfl rfl i0 i1 (by decide) (by decide) dL_law_1089 dL_law_1090 dL_law_1092 dL_law_1093 dL_law_1094 ?_
  refine aw_arg C hX hL rfl rfl i0 i1 (by decide) (by decide) dL_law_1095 dL_law_1096 dL_law_1098 dL_law_1099 dL_law_1100 ?_
  refine aw_call C dL_law_1101 lL_120 vX6_set (t_X6_set S1 ha hB (r32i _) (r32i _) (r32i _)) rfl rfl rfl ⟨rfl, lt77_55⟩ rfl ⟨by decide, by decide⟩ (Nat.le_of_ble_eq_true rfl) (fun r m2 hq => ?_)
  obtain ⟨rfl, hM⟩ := hq
  obtain ⟨V2, a2, H2, I2⟩ := I.a (qSe_c _ _ _ _) hA hM (fun _ => srt_setN I.2.2.1 _ _)
  refine aw_lcmp_self C dL_law_1104 dL_law_1105 (tgt := 1453) (by decide) ?_
  exact kk _ _ _ _ _ _ I2
theorem lc_fill (C : CX K (NC, c9, s9) mL_law 15) (hc : Lc K b Ln xs i) (I : Iv mu V a H) (kk : Kon K c9 s9 b i) : AW K mL_law (NC, c9, s9) 1110 (LL b i v5 v6) [] mu := by
  obtain ⟨hX, hL, i0, i1⟩ := hc
  refine aw_aload_n C dL_law_1110 rfl ?_
  refine aw_arg C hX hL rfl rfl i0 i1 (by decide) (by decide) dL_law_1111 dL_law_1112 dL_law_1114 dL_law_1115 dL_law_1116 ?_
  refine aw_arg C hX hL rfl rfl i0 i1 (by decide) (by decide) dL_law_1117 dL_law_1118 dL_law_1120 dL_law_1121 dL_law_1122 ?_
  refine aw_call C dL_law_1123 lL_121 vX5_fill (t_X5_fill I.1 (r32i _) (r32i _)) rfl rfl rfl ⟨rfl, lt77_0⟩ rfl ⟨by decide, by decide⟩ (Nat.le_of_ble_eq_true rfl) (fun r m1 hq => ?_)
  obtain ⟨rfl, hA⟩ := hq
  obtain ⟨S1, ha, hG, hB⟩ := I.am hA.2.1
  refine aw_aload_n C dL_law_1126 rfl ?_
  refine aw_arg C hX hL rfl rfl i0 i1 (by decide) (by decide) dL_law_1127 dL_law_1128 dL_law_1130 dL_law_1131 dL_law_1132 ?_
  refine aw_arg C hX hL rfl rfl i0 i1 (by decide) (by decide) dL_law_1133 dL_law_1134 dL_law_1136 dL_law_1137 dL_law_1138 ?_
  refine aw_call C dL_law_1139 lL_125 vX6_fill (t_X6_fill S1 ha hB (r32i _) (r32i _)) rfl rfl rfl ⟨rfl, lt77_55⟩ rfl ⟨by decide, by decide⟩ (Nat.le_of_ble_eq_true rfl) (fun r m2 hq => ?_)
  obtain ⟨rfl, hM⟩ := hq
  obtain ⟨V2, a2, H2, I2⟩ := I.a (qFi_c _ _ _) hA hM (fun _ => srt_setN I.2.2.1 _ _)
  refine aw_icmp_self C dL_law_1142 (tgt := 1453) (by decide) ?_
  exact kk _ _ _ _ _ _ I2
theorem lc_adds (C : CX K (NC, c9, s9) mL_law 15) (hc : Lc K b Ln xs i) (I : Iv mu V a H) (kk : Kon K c9 s9 b i) : AW K mL_law (NC, c9, s9) 1147 (LL b i v5 v6) [] mu := by
  obtain ⟨hX, hL, i0, i1⟩ := hc
  refine aw_aload_n C dL_law_1147 rfl ?_
  refine aw_arg C hX hL rfl rfl i0 i1 (by decide) (by decide) dL_law_1148 dL_law_1149 dL_law_1151 dL_law_1152 dL_law_1153 ?_
  refine aw_arg C hX hL rfl rfl i0 i1 (by decide) (by decide) dL_law_1154 dL_law_1155 dL_law_1157 dL_law_1158 dL_law_1159 ?_
  refine aw_arg C hX hL rfl rfl i0 i1 (by decide) (by decide) dL_law_1160 dL_law_1161 dL_law_1163 dL_law_1164 dL_law_1165 ?_
  refine aw_call C dL_law_1166 lL_126 vX5_adds (t_X5_adds I.1 (r32i _) (r32i _) (r32i _)) rfl rfl rfl ⟨rfl, lt77_0⟩ rfl ⟨by decide, by decide⟩ (Nat.le_of_ble_eq_true rfl) (fun r m1 hq => ?_)
  obtain ⟨rfl, hA⟩ := hq
  obtain ⟨S1, ha, hG, hB⟩ := I.am hA.2.1
  refine aw_aload_n C dL_law_1169 rfl ?_
  refine aw_arg C hX hL rfl rfl i0 i1 (by decide) (by decide) dL_law_1170 dL_law_1171 dL_law_1173 dL_law_1174 dL_law_1175 ?_
  refine aw_arg C hX hL rfl rfl i0 i1 (by decide) (by decide) dL_law_1176 dL_law_1177 dL_law_1179 dL_law_1180 dL_law_1181 ?_
  refine aw_arg C hX hL rfl rfl i0 i1 (by decide) (by decide) dL_law_1182 dL_law_1183 dL_law_1185 dL_law_1186 dL_law_1187 ?_
  refine aw_call C dL_law_1188 lL_130 vX6_adds (t_X6_adds S1 ha hB (r32i _) (r32i _) (r32i _)) rfl rfl rfl ⟨rfl, lt77_55⟩ rfl ⟨by decide, by decide⟩ (Nat.le_of_ble_eq_true rfl) (fun r m2 hq => ?_)
  obtain ⟨rfl, hM⟩ := hq
  obtain ⟨V2, a2, H2, I2⟩ := I.a (qAd_c _ _ _ _) hA hM (fun _ => srt_setN I.2.2.1 _ _)
  refine aw_icmp_self C dL_law_1191 (tgt := 1453) (by decide) ?_
  exact kk _ _ _ _ _ _ I2
theorem lc_shifts (C : CX K (NC, c9, s9) mL_law 15) (hc : Lc K b Ln xs i) (I : Iv mu V a H) (kk : Kon K c9 s9 b i) : AW K mL_law (NC, c9, s9) 1196 (LL b i v5 v6) [] mu := by
  obtain ⟨hX, hL, i0, i1⟩ := hc
  refine aw_aload_n C dL_law_1196 rfl ?_
  refine aw_arg C hX hL rfl rfl i0 i1 (by decide) (by decide) dL_law_1197 dL_law_1198 dL_law_1200 dL_law_1201 dL_law_1202 ?_
  refine aw_arg C hX hL rfl rfl i0 i1 (by decide) (by decide) dL_law_1203 dL_law_1204 dL_law_1206 dL_law_1207 dL_law_1208 ?_
  refine aw_arg C hX hL rfl rfl i0 i1 (by decide) (by decide) dL_law_1209 dL_law_1210 dL_law_1212 dL_law_1213 dL_law_1214 ?_
  refine aw_call C dL_law_1215 lL_131 vX5_shifts (t_X5_shifts I.1 (r32i _) (r32i _) (r32i _)) rfl rfl rfl ⟨rfl, lt77_0⟩ rfl ⟨by decide, by decide⟩ (Nat.le_of_ble_eq_true rfl) (fun r m1 hq => ?_)
  obtain ⟨rfl, hA⟩ := hq
  obtain ⟨S1, ha, hG, hB⟩ := I.am hA.2.1
  refine aw_aload_n C dL_law_1218 rfl ?_
  refine aw_arg C hX hL rfl rfl i0 i1 (by decide) (by decide) dL_law_1219 dL_law_1220 dL_law_1222 dL_law_1223 dL_law_1224 ?_
  refine aw_arg C hX hL rfl rfl i0 i1 (by decide) (by decide) dL_law_1225 dL_law_1226 dL_law_1228 dL_law_1229 dL_law_1230 ?_
  refine aw_arg C hX hL rfl rfl i0 i1 (by decide) (by decide) dL_law_1231 dL_law_1232 dL_law_1234 dL_law_1235 dL_law_1236 ?_
  refine aw_call C dL_law_1237 lL_134 vX6_shifts (t_X6_shifts S1 ha hB (r32i _) (r32i _) (r32i _)) rfl rfl rfl ⟨rfl, lt77_55⟩ rfl ⟨by decide, by decide⟩ (Nat.le_of_ble_eq_true rfl) (fun r m2 hq => ?_)
  obtain ⟨rfl, hM⟩ := hq
  obtain ⟨V2, a2, H2, I2⟩ := I.a (qSh_c _ _ _ _) hA hM (fun _ => srt_setN I.2.2.1 _ _)
  refine aw_icmp_self C dL_law_1240 (tgt := 1453) (by decide) ?_
  exact kk _ _ _ _ _ _ I2
theorem lc_star (C : CX K (NC, c9, s9) mL_law 15) (hc : Lc K b Ln xs i) (I : Iv mu V a H) (kk : Kon K c9 s9 b i) : AW K mL_law (NC, c9, s9) 1245 (LL b i v5 v6) [] mu := by
  obtain ⟨hX, hL, i0, i1⟩ := hc
  refine aw_aload_n C dL_law_1245 rfl ?_
  refine aw_arg C hX hL rfl rfl i0 i1 (by decide) (by decide) dL_law_1246 dL_law_1247 dL_law_1249 dL_law_1250 dL_law_1251 ?_
  refine aw_call C dL_law_1252 lL_135 vX5_star (t_X5_star I.1 I.2.2.1 (r32i _)) rfl rfl rfl ⟨rfl, lt77_0⟩ rfl ⟨by decide, by decide⟩ (Nat.le_of_ble_eq_true rfl) (fun r m1 hq => ?_)
  obtain ⟨rfl, hA⟩ := hq
  obtain ⟨S1, ha, hG, hB⟩ := I.am hA.2.1
  refine aw_aload_n C dL_law_1255 rfl ?_
  refine aw_arg C hX hL rfl rfl i0 i1 (by decide) (by decide) dL_law_1256 dL_law_1257 dL_law_1259 dL_law_1260 dL_law_1261 ?_
  refine aw_call C dL_law_1262 lL_138 vX6_star (t_X6_star S1 ha hB I.2.2.1 (r32i _)) rfl rfl rfl ⟨rfl, lt77_55⟩ rfl ⟨by decide, by decide⟩ (Nat.le_of_ble_eq_true rfl) (fun r m2 hq => ?_)
  obtain ⟨rfl, hM⟩ := hq
  obtain ⟨V2, a2, H2, I2⟩ := I.a (qSt_c _ _) hA hM (fun z => srt_wSt I.1.2.2.1 I.2.2.1 z)
  refine aw_icmp_self C dL_law_1265 (tgt := 1453) (by decide) ?_
  exact kk _ _ _ _ _ _ I2
theorem lc_cut (C : CX K (NC, c9, s9) mL_law 15) (hc : Lc K b Ln xs i) (I : Iv mu V a H) (kk : Kon K c9 s9 b i) : AW K mL_law (NC, c9, s9) 1270 (LL b i v5 v6) [] mu := by
  obtain ⟨hX, hL, i0, i1⟩ := hc
  refine aw_aload_n C dL_law_1270 rfl ?_
  refine aw_arg C hX hL rfl rfl i0 i1 (by decide) (by decide) dL_law_1271 dL_law_1272 dL_law_1274 dL_law_1275 dL_law_1276 ?_
  refine aw_call C dL_law_1277 lL_139 vX5_cut (t_X5_cut I.1 I.2.2.1 (r32i _)) rfl rfl rfl ⟨rfl, lt77_0⟩ rfl ⟨by decide, by decide⟩ (Nat.le_of_ble_eq_true rfl) (fun r m1 hq => ?_)
  obtain ⟨rfl, hA⟩ := hq
  obtain ⟨S1, ha, hG, hB⟩ := I.am hA.2.1
  refine aw_aload_n C dL_law_1280 rfl ?_
  refine aw_arg C hX hL rfl rfl i0 i1 (by decide) (by decide) dL_law_1281 dL_law_1282 dL_law_1284 dL_law_1285 dL_law_1286 ?_
  refine aw_call C dL_law_1287 lL_142 vX6_cut (t_X6_cut S1 ha hB I.2.2.1 (r32i _)) rfl rfl rfl ⟨rfl, lt77_55⟩ rfl ⟨by decide, by decide⟩ (Nat.le_of_ble_eq_true rfl) (fun r m2 hq => ?_)
  obtain ⟨rfl, hM⟩ := hq
  obtain ⟨V2, a2, H2, I2⟩ := I.a (qCu_c _ _) hA hM (fun z => srt_wCu I.1.2.2.1 I.2.2.1 z)
  refine aw_icmp_self C dL_law_1290 (tgt := 1453) (by decide) ?_
  exact kk _ _ _ _ _ _ I2
theorem lc_cutAll (C : CX K (NC, c9, s9) mL_law 15) (hc : Lc K b Ln xs i) (I : Iv mu V a H) (kk : Kon K c9 s9 b i) : AW K mL_law (NC, c9, s9) 1295 (LL b i v5 v6) [] mu := by
  obtain ⟨hX, hL, i0, i1⟩ := hc
  refine aw_aload_n C dL_law_1295 rfl ?_
  refine aw_call C dL_law_1296 lL_143 vX5_cutAll (t_X5_cutAll I.1 I.2.2.1 ) rfl rfl rfl ⟨rfl, lt77_0⟩ rfl ⟨by decide, by decide⟩ (Nat.le_of_ble_eq_true rfl) (fun r m1 hq => ?_)
  obtain ⟨rfl, hA⟩ := hq
  obtain ⟨S1, ha, hG, hB⟩ := I.am hA.2.1
  refine aw_aload_n C dL_law_1299 rfl ?_
  refine aw_call C dL_law_1300 lL_146 vX6_cutAll (t_X6_cutAll S1 ha hB I.2.2.1 ) rfl rfl rfl ⟨rfl, lt77_55⟩ rfl ⟨by decide, by decide⟩ (Nat.le_of_ble_eq_true rfl) (fun r m2 hq => ?_)
  obtain ⟨rfl, hM⟩ := hq
  obtain ⟨V2, a2, H2, I2⟩ := I.a (qCa_c _) hA hM (fun z => srt_wCa I.1.2.2.1 I.2.2.1 z)
  refine aw_icmp_self C dL_law_1303 (tgt := 1453) (by decide) ?_
  exact kk _ _ _ _ _ _ I2
theorem lc_drop (C : CX K (NC, c9, s9) mL_law 15) (hc : Lc K b Ln xs i) (I : Iv mu V a H) (kk : Kon K c9 s9 b i) : AW K mL_law (NC, c9, s9) 1308 (LL b i v5 v6) [] mu := by
  obtain ⟨hX, hL, i0, i1⟩ := hc
  refine aw_aload_n C dL_law_1308 rfl ?_
  refine aw_arg C hX hL rfl rfl i0 i1 (by decide) (by decide) dL_law_1309 dL_law_1310 dL_law_1312 dL_law_1313 dL_law_1314 ?_
  refine aw_call C dL_law_1315 lL_147 vX5_drop (t_X5_drop I.1 (r32i _)) rfl rfl rfl ⟨rfl, lt77_0⟩ rfl ⟨by decide, by decide⟩ (Nat.le_of_ble_eq_true rfl) (fun r m1 hq => ?_)
  obtain ⟨rfl, hA⟩ := hq
  obtain ⟨S1, ha, hG, hB⟩ := I.am hA.2.1
  refine aw_aload_n C dL_law_1318 rfl ?_
  refine aw_arg C hX hL rfl rfl i0 i1 (by decide) (by decide) dL_law_1319 dL_law_1320 dL_law_1322 dL_law_1323 dL_law_1324 ?_
  refine aw_call C dL_law_1325 lL_150 vX6_drop (t_X6_drop S1 ha hB I.2.2.1 (r32i _)) rfl rfl rfl ⟨rfl, lt77_55⟩ rfl ⟨by decide, by decide⟩ (Nat.le_of_ble_eq_true rfl) (fun r m2 hq => ?_)
  obtain ⟨rfl, hM⟩ := hq
  obtain ⟨V2, a2, H2, I2⟩ := I.a (qDr_c _ _) hA hM (fun z => srt_wDr I.2.2.1 z)
  refine aw_icmp_self C dL_law_1328 (tgt := 1453) (by decide) ?_
  exact kk _ _ _ _ _ _ I2
theorem lc_lean (C : CX K (NC, c9, s9) mL_law 15) (hc : Lc K b Ln xs i) (I : Iv mu V a H) (kk : Kon K c9 s9 b i) : AW K mL_law (NC, c9, s9) 1333 (LL b i v5 v6) [] mu := by
  obtain ⟨hX, hL, i0, i1⟩ := hc
  refine aw_aload_n C dL_law_1333 rfl ?_
  refine aw_call C dL_law_1334 lL_151 vX5_lean (t_X5_lean I.1 ) rfl rfl rfl ⟨rfl, lt77_0⟩ rfl ⟨by decide, by decide⟩ (Nat.le_of_ble_eq_true rfl) (fun r m1 hq => ?_)
  obtain ⟨rfl, hA⟩ := hq
  obtain ⟨S1, ha, hG, hB⟩ := I.am hA.2.1
  refine aw_aload_n C dL_law_1337 rfl ?_
  refine aw_call C dL_law_1338 lL_154 vX6_lean (t_X6_lean S1 ha hB I.2.2.1 ) rfl rfl rfl ⟨rfl, lt77_55⟩ rfl ⟨by decide, by decide⟩ (Nat.le_of_ble_eq_true rfl) (fun r m2 hq => ?_)
  obtain ⟨rfl, hM⟩ := hq
  obtain ⟨V2, a2, H2, I2⟩ := I.a (qLn_c _) hA hM (fun _ => srt_wLn I.2.2.1)
  refine aw_icmp_self C dL_law_1341 (tgt := 1453) (by decide) ?_
  exact kk _ _ _ _ _ _ I2
theorem lc_undo (C : CX K (NC, c9, s9) mL_law 15) (hc : Lc K b Ln xs i) (I : Iv mu V a H) (kk : Kon K c9 s9 b i) : AW K mL_law (NC, c9, s9) 1346 (LL b i v5 v6) [] mu := by
  obtain ⟨hX, hL, i0, i1⟩ := hc
  refine aw_aload_n C dL_law_1346 rfl ?_
  refine aw_call C dL_law_1347 lL_155 vX5_undo (t_X5_undo I.1 ) rfl rfl rfl ⟨rfl, lt77_0⟩ rfl ⟨by decide, by decide⟩ (Nat.le_of_ble_eq_true rfl) (fun r m1 hq => ?_)
  obtain ⟨rfl, e1, f1, s1, n1⟩ := hq
  obtain ⟨S1, ha, hG, hB⟩ := I.am f1
  refine aw_aload_n C dL_law_1350 rfl ?_
  refine aw_call C dL_law_1351 lL_158 vX6_undo (t_X6_undo S1 ha hG ) rfl rfl rfl ⟨rfl, lt77_55⟩ rfl ⟨by decide, by decide⟩ (Nat.le_of_ble_eq_true rfl) (fun r m2 hq => ?_)
  obtain ⟨rfl, e2, f2, s2, n2⟩ := hq
  obtain ⟨V2, a2, H2, I2⟩ := I.u e1 f1 s1 n1 e2 f2 s2 n2
  refine aw_icmp_self C dL_law_1354 (tgt := 1453) (by decide) ?_
  exact kk _ _ _ _ _ _ I2
theorem lc_fault (C : CX K (NC, c9, s9) mL_law 15) (hc : Lc K b Ln xs i) (I : Iv mu V a H) (kk : Kon K c9 s9 b i) : AW K mL_law (NC, c9, s9) 294 (LL b i v5 v6) [] mu := by
  obtain ⟨hX, hL, i0, i1⟩ := hc
  refine aw_aload_n C dL_law_294 rfl ?_
  refine aw_call1 C dL_law_295 lL_29 vX5_fault t_X5_fault rfl rfl rfl ⟨rfl, lt77_0⟩ rfl ⟨by decide, by decide⟩ (Nat.le_of_ble_eq_true rfl) ?_
  refine aw_aload_n C dL_law_298 rfl ?_
  refine aw_call1 C dL_law_299 lL_33 vX6_fault t_X6_fault rfl rfl rfl ⟨rfl, lt77_55⟩ rfl ⟨by decide, by decide⟩ (Nat.le_of_ble_eq_true rfl) ?_
  rw [I.2.2.2.2.2.2.2.1]
  refine aw_icmp_self C dL_law_302 (tgt := 1453) (by decide) ?_
  exact kk _ _ _ _ _ _ I.t
theorem lc_where (C : CX K (NC, c9, s9) mL_law 15) (hc : Lc K b Ln xs i) (I : Iv mu V a H) (kk : Kon K c9 s9 b i) : AW K mL_law (NC, c9, s9) 307 (LL b i v5 v6) [] mu := by
  obtain ⟨hX, hL, i0, i1⟩ := hc
  refine aw_aload_n C dL_law_307 rfl ?_
  refine aw_call1 C dL_law_308 lL_34 vX5_where (t_X5_where (by have := I.2.2.2.2.2.2.2.2.1; omega)) rfl rfl rfl ⟨rfl, lt77_0⟩ rfl ⟨by decide, by decide⟩ (Nat.le_of_ble_eq_true rfl) ?_
  refine aw_aload_n C dL_law_311 rfl ?_
  refine aw_call1 C dL_law_312 lL_37 vX6_where t_X6_where rfl rfl rfl ⟨rfl, lt77_55⟩ rfl ⟨by decide, by decide⟩ (Nat.le_of_ble_eq_true rfl) ?_
  rw [I.2.2.2.2.2.2.2.2.2.1.symm]
  refine aw_icmp_self C dL_law_315 (tgt := 1453) (by decide) ?_
  exact kk _ _ _ _ _ _ I.t
theorem lc_size (C : CX K (NC, c9, s9) mL_law 15) (hc : Lc K b Ln xs i) (I : Iv mu V a H) (kk : Kon K c9 s9 b i) : AW K mL_law (NC, c9, s9) 1427 (LL b i v5 v6) [] mu := by
  obtain ⟨hX, hL, i0, i1⟩ := hc
  refine aw_aload_n C dL_law_1427 rfl ?_
  refine aw_call1 C dL_law_1428 lL_168 vX5_size t_X5_size rfl rfl rfl ⟨rfl, lt77_0⟩ rfl ⟨by decide, by decide⟩ (Nat.le_of_ble_eq_true rfl) ?_
  refine aw_aload_n C dL_law_1431 rfl ?_
  refine aw_call1 C dL_law_1432 lL_171 vX6_size t_X6_size rfl rfl rfl ⟨rfl, lt77_55⟩ rfl ⟨by decide, by decide⟩ (Nat.le_of_ble_eq_true rfl) ?_
  rw [I.2.2.2.2.2.1.1]
  refine aw_icmp_self C dL_law_1435 (tgt := 1453) (by decide) ?_
  exact kk _ _ _ _ _ _ I.t
theorem lc_trouble (C : CX K (NC, c9, s9) mL_law 15) (hc : Lc K b Ln xs i) (I : Iv mu V a H) (kk : Kon K c9 s9 b i) : AW K mL_law (NC, c9, s9) 1440 (LL b i v5 v6) [] mu := by
  obtain ⟨hX, hL, i0, i1⟩ := hc
  refine aw_aload_n C dL_law_1440 rfl ?_
  refine aw_call1 C dL_law_1441 lL_172 vX5_trouble t_X5_trouble rfl rfl rfl ⟨rfl, lt77_0⟩ rfl ⟨by decide, by decide⟩ (Nat.le_of_ble_eq_true rfl) ?_
  refine aw_aload_n C dL_law_1444 rfl ?_
  refine aw_call1 C dL_law_1445 lL_175 vX6_trouble t_X6_trouble rfl rfl rfl ⟨rfl, lt77_55⟩ rfl ⟨by decide, by decide⟩ (Nat.le_of_ble_eq_true rfl) ?_
  rw [I.2.2.2.2.2.2.2.2.1.1]
  refine aw_icmp_self C dL_law_1448 (tgt := 1453) (by decide) ?_
  exact kk _ _ _ _ _ _ I.t
end LawCases
