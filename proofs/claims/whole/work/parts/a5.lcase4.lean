/-! THE LAW: a case of its switch each -/
theorem lc_forged {X : Xx} {o : Nat} {cL : ClassId} {b L : Nat} {xs1 : Nat → Int32} {Q : State → Prop} {kc ks : Nat} {s : St} {A : Ab} {f : Nat → Int64} {j : Nat} (K : Lok X o cL b L xs1) (hj : 6 * j + 6 ≤ L) (hk : kc + 1 ≤ 601024 ∧ ks + 6 ≤ 7293034) (hR : RR s A) (next : ∀ (s2 : St) (A2 : Ab) (f2 : Nat → Int64), RR s2 A2 → LV X o cL Q (kc + 1) (ks + 6) s2 f2 1600 (lwL X o b j) []) : LV X o cL Q kc ks s f 1089 (lwL X o b j) [] := by
  refine l_aload_n K d_law_1089 rfl ?_
  refine l_arg K (j := j) (k := 1) (by omega) rfl rfl d_law_1090 d_law_1091 d_law_1093 d_law_1094 d_law_1095 ?_
  refine l_arg K (j := j) (k := 2) (by omega) rfl rfl d_law_1096 d_law_1097 d_law_1099 d_law_1100 d_law_1101 ?_
  refine l_call (As := [.int (xs1 (6 * j + 1)), .int (xs1 (6 * j + 2))]) (rest := []) (p := 0) K (m_Brt_forged (xg X) K.1.2.2.2.2.2.2.1 (xs1 (6 * j + 1)) (xs1 (6 * j + 2)) s _ (e_forged hR _ _)) cw_Brt_forged ml_Law_139 rfl (by decide) (by decide) rfl rfl rfl ⟨rfl, rfl, Nat.le_of_ble_eq_true rfl, Nat.le_of_ble_eq_true rfl⟩ ⟨by omega, by omega⟩ rfl (Nat.le_of_ble_eq_true rfl) d_law_1102 ?_
  rintro _ s1 ⟨r, rfl, hw⟩
  show LV X o cL Q kc ks s1 f 1105 (lwL X o b j) [.int r]
  refine l_aload_n K d_law_1105 rfl ?_
  refine l_arg K (j := j) (k := 1) (by omega) rfl rfl d_law_1106 d_law_1107 d_law_1109 d_law_1110 d_law_1111 ?_
  refine l_arg K (j := j) (k := 2) (by omega) rfl rfl d_law_1112 d_law_1113 d_law_1115 d_law_1116 d_law_1117 ?_
  refine l_call (As := [.int (xs1 (6 * j + 1)), .int (xs1 (6 * j + 2))]) (rest := [.int r]) (p := 82) K (m_Mod_forged (xg X) K.1.2.2.2.2.2.2.1 (xs1 (6 * j + 1)) (xs1 (6 * j + 2)) s1 _ hw) cw_Mod_forged ml_Law_142 rfl (by decide) (by decide) rfl rfl rfl ⟨rfl, rfl, Nat.le_of_ble_eq_true rfl, Nat.le_of_ble_eq_true rfl⟩ ⟨by omega, by omega⟩ rfl (Nat.le_of_ble_eq_true rfl) d_law_1118 ?_
  rintro _ s2 ⟨r', rfl, hw⟩
  show LV X o cL Q kc ks s2 f 1121 (lwL X o b j) [.int r', .int r]
  obtain ⟨rfl, hR'⟩ := hw
  exact l_icmp_eq (tgt := 1600) K d_law_1121 (by decide) (fun _ => l_widen (Nat.le_succ _) (Nat.le_add_right _ _) (next _ _ f hR')) (fun c => absurd rfl c)
theorem lc_judge {X : Xx} {o : Nat} {cL : ClassId} {b L : Nat} {xs1 : Nat → Int32} {Q : State → Prop} {kc ks : Nat} {s : St} {A : Ab} {f : Nat → Int64} {j : Nat} (K : Lok X o cL b L xs1) (hj : 6 * j + 6 ≤ L) (hk : kc + 1 ≤ 601024 ∧ ks + 6 ≤ 7293034) (hR : RR s A) (next : ∀ (s2 : St) (A2 : Ab) (f2 : Nat → Int64), RR s2 A2 → LV X o cL Q (kc + 1) (ks + 6) s2 f2 1600 (lwL X o b j) []) : LV X o cL Q kc ks s f 1126 (lwL X o b j) [] := by
  refine l_aload_n K d_law_1126 rfl ?_
  refine l_arg K (j := j) (k := 1) (by omega) rfl rfl d_law_1127 d_law_1128 d_law_1130 d_law_1131 d_law_1132 ?_
  refine l_call (As := [.int (xs1 (6 * j + 1))]) (rest := []) (p := 0) K (m_Brt_judge (xg X) K.1.2.2.2.2.2.2.1 (xs1 (6 * j + 1)) s _ (e_judge hR _)) cw_Brt_judge ml_Law_143 rfl (by decide) (by decide) rfl rfl rfl ⟨rfl, rfl, Nat.le_of_ble_eq_true rfl, Nat.le_of_ble_eq_true rfl⟩ ⟨by omega, by omega⟩ rfl (Nat.le_of_ble_eq_true rfl) d_law_1133 ?_
  rintro _ s1 ⟨r, rfl, hw⟩
  show LV X o cL Q kc ks s1 f 1136 (lwL X o b j) [.int r]
  refine l_aload_n K d_law_1136 rfl ?_
  refine l_arg K (j := j) (k := 1) (by omega) rfl rfl d_law_1137 d_law_1138 d_law_1140 d_law_1141 d_law_1142 ?_
  refine l_call (As := [.int (xs1 (6 * j + 1))]) (rest := [.int r]) (p := 82) K (m_Mod_judge (xg X) K.1.2.2.2.2.2.2.1 (xs1 (6 * j + 1)) s1 _ hw) cw_Mod_judge ml_Law_146 rfl (by decide) (by decide) rfl rfl rfl ⟨rfl, rfl, Nat.le_of_ble_eq_true rfl, Nat.le_of_ble_eq_true rfl⟩ ⟨by omega, by omega⟩ rfl (Nat.le_of_ble_eq_true rfl) d_law_1143 ?_
  rintro _ s2 ⟨r', rfl, hw⟩
  show LV X o cL Q kc ks s2 f 1146 (lwL X o b j) [.int r', .int r]
  obtain ⟨rfl, hR'⟩ := hw
  exact l_icmp_eq (tgt := 1600) K d_law_1146 (by decide) (fun _ => l_widen (Nat.le_succ _) (Nat.le_add_right _ _) (next _ _ f hR')) (fun c => absurd rfl c)
theorem lc_parties {X : Xx} {o : Nat} {cL : ClassId} {b L : Nat} {xs1 : Nat → Int32} {Q : State → Prop} {kc ks : Nat} {s : St} {A : Ab} {f : Nat → Int64} {j : Nat} (K : Lok X o cL b L xs1) (hj : 6 * j + 6 ≤ L) (hk : kc + 1 ≤ 601024 ∧ ks + 6 ≤ 7293034) (hR : RR s A) (next : ∀ (s2 : St) (A2 : Ab) (f2 : Nat → Int64), RR s2 A2 → LV X o cL Q (kc + 1) (ks + 6) s2 f2 1600 (lwL X o b j) []) : LV X o cL Q kc ks s f 1151 (lwL X o b j) [] := by
  refine l_aload_n K d_law_1151 rfl ?_
  refine l_arg K (j := j) (k := 1) (by omega) rfl rfl d_law_1152 d_law_1153 d_law_1155 d_law_1156 d_law_1157 ?_
  refine l_arg K (j := j) (k := 2) (by omega) rfl rfl d_law_1158 d_law_1159 d_law_1161 d_law_1162 d_law_1163 ?_
  refine l_arg K (j := j) (k := 3) (by omega) rfl rfl d_law_1164 d_law_1165 d_law_1167 d_law_1168 d_law_1169 ?_
  refine l_call (As := [.int (xs1 (6 * j + 1)), .int (xs1 (6 * j + 2)), .int (xs1 (6 * j + 3))]) (rest := []) (p := 0) K (m_Brt_parties (xg X) K.1.2.2.2.2.2.2.1 (xs1 (6 * j + 1)) (xs1 (6 * j + 2)) (xs1 (6 * j + 3)) s _ (e_parties hR _ _ _)) cw_Brt_parties ml_Law_147 rfl (by decide) (by decide) rfl rfl rfl ⟨rfl, rfl, Nat.le_of_ble_eq_true rfl, Nat.le_of_ble_eq_true rfl⟩ ⟨by omega, by omega⟩ rfl (Nat.le_of_ble_eq_true rfl) d_law_1170 ?_
  rintro _ s1 ⟨r, rfl, hw⟩
  show LV X o cL Q kc ks s1 f 1173 (lwL X o b j) [.int r]
  refine l_aload_n K d_law_1173 rfl ?_
  refine l_arg K (j := j) (k := 1) (by omega) rfl rfl d_law_1174 d_law_1175 d_law_1177 d_law_1178 d_law_1179 ?_
  refine l_arg K (j := j) (k := 2) (by omega) rfl rfl d_law_1180 d_law_1181 d_law_1183 d_law_1184 d_law_1185 ?_
  refine l_arg K (j := j) (k := 3) (by omega) rfl rfl d_law_1186 d_law_1187 d_law_1189 d_law_1190 d_law_1191 ?_
  refine l_call (As := [.int (xs1 (6 * j + 1)), .int (xs1 (6 * j + 2)), .int (xs1 (6 * j + 3))]) (rest := [.int r]) (p := 82) K (m_Mod_parties (xg X) K.1.2.2.2.2.2.2.1 (xs1 (6 * j + 1)) (xs1 (6 * j + 2)) (xs1 (6 * j + 3)) s1 _ hw) cw_Mod_parties ml_Law_150 rfl (by decide) (by decide) rfl rfl rfl ⟨rfl, rfl, Nat.le_of_ble_eq_true rfl, Nat.le_of_ble_eq_true rfl⟩ ⟨by omega, by omega⟩ rfl (Nat.le_of_ble_eq_true rfl) d_law_1192 ?_
  rintro _ s2 ⟨r', rfl, hw⟩
  show LV X o cL Q kc ks s2 f 1195 (lwL X o b j) [.int r', .int r]
  obtain ⟨rfl, hR'⟩ := hw
  exact l_icmp_eq (tgt := 1600) K d_law_1195 (by decide) (fun _ => l_widen (Nat.le_succ _) (Nat.le_add_right _ _) (next _ _ f hR')) (fun c => absurd rfl c)
theorem lc_image {X : Xx} {o : Nat} {cL : ClassId} {b L : Nat} {xs1 : Nat → Int32} {Q : State → Prop} {kc ks : Nat} {s : St} {A : Ab} {f : Nat → Int64} {j : Nat} (K : Lok X o cL b L xs1) (hj : 6 * j + 6 ≤ L) (hk : kc + 1 ≤ 601024 ∧ ks + 6 ≤ 7293034) (hR : RR s A) (next : ∀ (s2 : St) (A2 : Ab) (f2 : Nat → Int64), RR s2 A2 → LV X o cL Q (kc + 1) (ks + 6) s2 f2 1600 (lwL X o b j) []) : LV X o cL Q kc ks s f 1200 (lwL X o b j) [] := by
  refine l_aload_n K d_law_1200 rfl ?_
  refine l_call (As := []) (rest := []) (p := 0) K (m_Brt_image (xg X) K.1.2.2.2.2.2.2.1 s _ (e_image hR)) cw_Brt_image ml_Law_151 rfl (by decide) (by decide) rfl rfl rfl ⟨rfl, rfl, Nat.le_of_ble_eq_true rfl, Nat.le_of_ble_eq_true rfl⟩ ⟨by omega, by omega⟩ rfl (Nat.le_of_ble_eq_true rfl) d_law_1201 ?_
  rintro _ s1 ⟨r, rfl, hw⟩
  show LV X o cL Q kc ks s1 f 1204 (lwL X o b j) [.int r]
  refine l_aload_n K d_law_1204 rfl ?_
  refine l_call (As := []) (rest := [.int r]) (p := 82) K (m_Mod_image (xg X) K.1.2.2.2.2.2.2.1 s1 _ hw) cw_Mod_image ml_Law_154 rfl (by decide) (by decide) rfl rfl rfl ⟨rfl, rfl, Nat.le_of_ble_eq_true rfl, Nat.le_of_ble_eq_true rfl⟩ ⟨by omega, by omega⟩ rfl (Nat.le_of_ble_eq_true rfl) d_law_1205 ?_
  rintro _ s2 ⟨r', rfl, hw⟩
  show LV X o cL Q kc ks s2 f 1208 (lwL X o b j) [.int r', .int r]
  obtain ⟨rfl, A', hR'⟩ := hw
  exact l_icmp_eq (tgt := 1600) K d_law_1208 (by decide) (fun _ => l_widen (Nat.le_succ _) (Nat.le_add_right _ _) (next _ _ f hR')) (fun c => absurd rfl c)
theorem lc_restore {X : Xx} {o : Nat} {cL : ClassId} {b L : Nat} {xs1 : Nat → Int32} {Q : State → Prop} {kc ks : Nat} {s : St} {A : Ab} {f : Nat → Int64} {j : Nat} (K : Lok X o cL b L xs1) (hj : 6 * j + 6 ≤ L) (hk : kc + 1 ≤ 601024 ∧ ks + 6 ≤ 7293034) (hR : RR s A) (next : ∀ (s2 : St) (A2 : Ab) (f2 : Nat → Int64), RR s2 A2 → LV X o cL Q (kc + 1) (ks + 6) s2 f2 1600 (lwL X o b j) []) : LV X o cL Q kc ks s f 1213 (lwL X o b j) [] := by
  refine l_aload_n K d_law_1213 rfl ?_
  refine l_call (As := []) (rest := []) (p := 0) K (m_Brt_restore (xg X) K.1.2.2.2.2.2.2.1 s _ (e_restore hR)) cw_Brt_restore ml_Law_155 rfl (by decide) (by decide) rfl rfl rfl ⟨rfl, rfl, Nat.le_of_ble_eq_true rfl, Nat.le_of_ble_eq_true rfl⟩ ⟨by omega, by omega⟩ rfl (Nat.le_of_ble_eq_true rfl) d_law_1214 ?_
  rintro _ s1 ⟨r, rfl, hw⟩
  show LV X o cL Q kc ks s1 f 1217 (lwL X o b j) [.int r]
  refine l_aload_n K d_law_1217 rfl ?_
  refine l_call (As := []) (rest := [.int r]) (p := 82) K (m_Mod_restore (xg X) K.1.2.2.2.2.2.2.1 s1 _ hw) cw_Mod_restore ml_Law_158 rfl (by decide) (by decide) rfl rfl rfl ⟨rfl, rfl, Nat.le_of_ble_eq_true rfl, Nat.le_of_ble_eq_true rfl⟩ ⟨by omega, by omega⟩ rfl (Nat.le_of_ble_eq_true rfl) d_law_1218 ?_
  rintro _ s2 ⟨r', rfl, hw⟩
  show LV X o cL Q kc ks s2 f 1221 (lwL X o b j) [.int r', .int r]
  obtain ⟨rfl, A', hR'⟩ := hw
  exact l_icmp_eq (tgt := 1600) K d_law_1221 (by decide) (fun _ => l_widen (Nat.le_succ _) (Nat.le_add_right _ _) (next _ _ f hR')) (fun c => absurd rfl c)
theorem lc_count {X : Xx} {o : Nat} {cL : ClassId} {b L : Nat} {xs1 : Nat → Int32} {Q : State → Prop} {kc ks : Nat} {s : St} {A : Ab} {f : Nat → Int64} {j : Nat} (K : Lok X o cL b L xs1) (hj : 6 * j + 6 ≤ L) (hk : kc + 1 ≤ 601024 ∧ ks + 6 ≤ 7293034) (hR : RR s A) (next : ∀ (s2 : St) (A2 : Ab) (f2 : Nat → Int64), RR s2 A2 → LV X o cL Q (kc + 1) (ks + 6) s2 f2 1600 (lwL X o b j) []) : LV X o cL Q kc ks s f 1226 (lwL X o b j) [] := by
  refine l_aload_n K d_law_1226 rfl ?_
  refine l_arg K (j := j) (k := 1) (by omega) rfl rfl d_law_1227 d_law_1228 d_law_1230 d_law_1231 d_law_1232 ?_
  refine l_call (As := [.int (xs1 (6 * j + 1))]) (rest := []) (p := 0) K (m_Brt_count (xg X) K.1.2.2.2.2.2.2.1 (xs1 (6 * j + 1)) s _ (e_count hR _)) cw_Brt_count ml_Law_159 rfl (by decide) (by decide) rfl rfl rfl ⟨rfl, rfl, Nat.le_of_ble_eq_true rfl, Nat.le_of_ble_eq_true rfl⟩ ⟨by omega, by omega⟩ rfl (Nat.le_of_ble_eq_true rfl) d_law_1233 ?_
  rintro _ _ ⟨r, rfl, rfl, hw⟩
  show LV X o cL Q kc ks s f 1236 (lwL X o b j) [.int r]
  refine l_aload_n K d_law_1236 rfl ?_
  refine l_arg K (j := j) (k := 1) (by omega) rfl rfl d_law_1237 d_law_1238 d_law_1240 d_law_1241 d_law_1242 ?_
  refine l_call (As := [.int (xs1 (6 * j + 1))]) (rest := [.int r]) (p := 82) K (m_Mod_count (xg X) K.1.2.2.2.2.2.2.1 (xs1 (6 * j + 1)) s _ hw) cw_Mod_count ml_Law_162 rfl (by decide) (by decide) rfl rfl rfl ⟨rfl, rfl, Nat.le_of_ble_eq_true rfl, Nat.le_of_ble_eq_true rfl⟩ ⟨by omega, by omega⟩ rfl (Nat.le_of_ble_eq_true rfl) d_law_1243 ?_
  rintro _ _ ⟨r', rfl, rfl, hw⟩
  show LV X o cL Q kc ks s f 1246 (lwL X o b j) [.int r', .int r]
  obtain rfl := hw
  have hR' := hR
  exact l_icmp_eq (tgt := 1600) K d_law_1246 (by decide) (fun _ => l_widen (Nat.le_succ _) (Nat.le_add_right _ _) (next _ _ f hR')) (fun c => absurd rfl c)
theorem lc_keep {X : Xx} {o : Nat} {cL : ClassId} {b L : Nat} {xs1 : Nat → Int32} {Q : State → Prop} {kc ks : Nat} {s : St} {A : Ab} {f : Nat → Int64} {j : Nat} (K : Lok X o cL b L xs1) (hj : 6 * j + 6 ≤ L) (hk : kc + 1 ≤ 601024 ∧ ks + 6 ≤ 7293034) (hR : RR s A) (next : ∀ (s2 : St) (A2 : Ab) (f2 : Nat → Int64), RR s2 A2 → LV X o cL Q (kc + 1) (ks + 6) s2 f2 1600 (lwL X o b j) []) : LV X o cL Q kc ks s f 1251 (lwL X o b j) [] := by
  refine l_aload_n K d_law_1251 rfl ?_
  refine l_arg K (j := j) (k := 1) (by omega) rfl rfl d_law_1252 d_law_1253 d_law_1255 d_law_1256 d_law_1257 ?_
  refine l_arg K (j := j) (k := 2) (by omega) rfl rfl d_law_1258 d_law_1259 d_law_1261 d_law_1262 d_law_1263 ?_
  refine l_arg K (j := j) (k := 3) (by omega) rfl rfl d_law_1264 d_law_1265 d_law_1267 d_law_1268 d_law_1269 ?_
  refine l_arg K (j := j) (k := 4) (by omega) rfl rfl d_law_1270 d_law_1271 d_law_1273 d_law_1274 d_law_1275 ?_
  refine l_call (As := [.int (xs1 (6 * j + 1)), .int (xs1 (6 * j + 2)), .int (xs1 (6 * j + 3)), .int (xs1 (6 * j + 4))]) (rest := []) (p := 0) K (m_Brt_keep (xg X) K.1.2.2.2.2.2.2.1 (xs1 (6 * j + 1)) (xs1 (6 * j + 2)) (xs1 (6 * j + 3)) (xs1 (6 * j + 4)) s _ (e_keep hR _ _ _ _)) cw_Brt_keep ml_Law_163 rfl (by decide) (by decide) rfl rfl rfl ⟨rfl, rfl, Nat.le_of_ble_eq_true rfl, Nat.le_of_ble_eq_true rfl⟩ ⟨by omega, by omega⟩ rfl (Nat.le_of_ble_eq_true rfl) d_law_1276 ?_
  rintro _ s1 ⟨r, rfl, hw⟩
  show LV X o cL Q kc ks s1 f 1279 (lwL X o b j) [.int r]
  refine l_aload_n K d_law_1279 rfl ?_
  refine l_arg K (j := j) (k := 1) (by omega) rfl rfl d_law_1280 d_law_1281 d_law_1283 d_law_1284 d_law_1285 ?_
  refine l_arg K (j := j) (k := 2) (by omega) rfl rfl d_law_1286 d_law_1287 d_law_1289 d_law_1290 d_law_1291 ?_
  refine l_arg K (j := j) (k := 3) (by omega) rfl rfl d_law_1292 d_law_1293 d_law_1295 d_law_1296 d_law_1297 ?_
  refine l_arg K (j := j) (k := 4) (by omega) rfl rfl d_law_1298 d_law_1299 d_law_1301 d_law_1302 d_law_1303 ?_
  refine l_call (As := [.int (xs1 (6 * j + 1)), .int (xs1 (6 * j + 2)), .int (xs1 (6 * j + 3)), .int (xs1 (6 * j + 4))]) (rest := [.int r]) (p := 82) K (m_Mod_keep (xg X) K.1.2.2.2.2.2.2.1 (xs1 (6 * j + 1)) (xs1 (6 * j + 2)) (xs1 (6 * j + 3)) (xs1 (6 * j + 4)) s1 _ hw) cw_Mod_keep ml_Law_166 rfl (by decide) (by decide) rfl rfl rfl ⟨rfl, rfl, Nat.le_of_ble_eq_true rfl, Nat.le_of_ble_eq_true rfl⟩ ⟨by omega, by omega⟩ rfl (Nat.le_of_ble_eq_true rfl) d_law_1304 ?_
  rintro _ s2 ⟨r', rfl, hw⟩
  show LV X o cL Q kc ks s2 f 1307 (lwL X o b j) [.int r', .int r]
  obtain ⟨rfl, A', hR'⟩ := hw
  exact l_icmp_eq (tgt := 1600) K d_law_1307 (by decide) (fun _ => l_widen (Nat.le_succ _) (Nat.le_add_right _ _) (next _ _ f hR')) (fun c => absurd rfl c)
