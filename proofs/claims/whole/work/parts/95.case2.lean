theorem law_nearFor : lK 1178 := by
  intro p l e s m below meth c b L xs hL C0 D cI cZ cQ adK adV adx adm K σ τ h H locs G i hi ls hl Q kk
  have X := at_cx C0
  have hx := X.1
  have hb := X.2.1
  have hX := C0.2.2.2.2.2.2.1
  have hbl : b < s.heap.size := C0.2.2.2.2.2.2.2.1
  have hbA : ¬ s.heap.size ≤ b := Nat.not_le.mpr hbl
  obtain ⟨r, σ', τ', h1, h2, h3⟩ := op_nearFor h (xs (i + 1).toNatClampNeg) (xs (i + 2).toNatClampNeg)
  refine lv_aload_n hx hb dL_law_1178 rfl (lv_at hl 2 rfl) ?_
  refine lv_aload_n hx hb dL_law_1179 rfl (lv_at hl 3 rfl) ?_
  refine lv_iload_n hx hb dL_law_1180 rfl (lv_at hl 0 rfl) ?_
  refine lv_iconst (v := 1) hx hb dL_law_1181 (by decide) ?_
  refine lv_iadd hx hb dL_law_1182 ?_
  refine va_sld hx hb hX hbl hbA G.2.2 (lw_in hL hi 1 (by decide)) dL_law_1183 ?_
  refine lv_aload_n hx hb dL_law_1184 rfl (lv_at hl 3 rfl) ?_
  refine lv_iload_n hx hb dL_law_1185 rfl (lv_at hl 0 rfl) ?_
  refine lv_iconst (v := 2) hx hb dL_law_1186 (by decide) ?_
  refine lv_iadd hx hb dL_law_1187 ?_
  refine va_sld hx hb hX hbl hbA G.2.2 (lw_in hL hi 2 (by decide)) dL_law_1188 ?_
  refine lcX (As := [.int (xs (i + 1).toNatClampNeg), .int (xs (i + 2).toNatClampNeg)]) X K (fun _ h => h) G (fun A' => c_X6_nearFor h1) q_805 my_X6_nearFor ⟨rfl, rfl⟩ ⟨by decide, by decide⟩ ⟨by decide, by decide⟩ rfl hl.1 rfl (Nat.le_of_ble_eq_true rfl) dL_law_1189 (fun H locs G => ?_)
  refine lv_aload_n hx hb dL_law_1192 rfl (lv_at hl 1 rfl) ?_
  refine lv_aload_n hx hb dL_law_1193 rfl (lv_at hl 3 rfl) ?_
  refine lv_iload_n hx hb dL_law_1194 rfl (lv_at hl 0 rfl) ?_
  refine lv_iconst (v := 1) hx hb dL_law_1195 (by decide) ?_
  refine lv_iadd hx hb dL_law_1196 ?_
  refine va_sld hx hb hX hbl hbA G.2.2 (lw_in hL hi 1 (by decide)) dL_law_1197 ?_
  refine lv_aload_n hx hb dL_law_1198 rfl (lv_at hl 3 rfl) ?_
  refine lv_iload_n hx hb dL_law_1199 rfl (lv_at hl 0 rfl) ?_
  refine lv_iconst (v := 2) hx hb dL_law_1200 (by decide) ?_
  refine lv_iadd hx hb dL_law_1201 ?_
  refine va_sld hx hb hX hbl hbA G.2.2 (lw_in hL hi 2 (by decide)) dL_law_1202 ?_
  refine lcM (As := [.int (xs (i + 1).toNatClampNeg), .int (xs (i + 2).toNatClampNeg)]) X K (fun _ h => h) G (fun A' => c_X7_nearFor h2) q_1305 my_X7_nearFor ⟨rfl, rfl⟩ ⟨by decide, by decide⟩ ⟨by decide, by decide⟩ rfl hl.1 rfl (Nat.le_of_ble_eq_true rfl) dL_law_1203 (fun H locs G => ?_)
  exact lv_icmp_eq (tgt := 1623) hx hb dL_law_1206 (by decide) (fun _ => kk _ _ _ _ h3 G) (fun q => absurd rfl q)
theorem law_chance : lK 1211 := by
  intro p l e s m below meth c b L xs hL C0 D cI cZ cQ adK adV adx adm K σ τ h H locs G i hi ls hl Q kk
  have X := at_cx C0
  have hx := X.1
  have hb := X.2.1
  have hX := C0.2.2.2.2.2.2.1
  have hbl : b < s.heap.size := C0.2.2.2.2.2.2.2.1
  have hbA : ¬ s.heap.size ≤ b := Nat.not_le.mpr hbl
  obtain ⟨r, σ', τ', h1, h2, h3⟩ := op_chance h (xs (i + 1).toNatClampNeg) (xs (i + 2).toNatClampNeg)
  refine lv_aload_n hx hb dL_law_1211 rfl (lv_at hl 2 rfl) ?_
  refine lv_aload_n hx hb dL_law_1212 rfl (lv_at hl 3 rfl) ?_
  refine lv_iload_n hx hb dL_law_1213 rfl (lv_at hl 0 rfl) ?_
  refine lv_iconst (v := 1) hx hb dL_law_1214 (by decide) ?_
  refine lv_iadd hx hb dL_law_1215 ?_
  refine va_sld hx hb hX hbl hbA G.2.2 (lw_in hL hi 1 (by decide)) dL_law_1216 ?_
  refine lv_aload_n hx hb dL_law_1217 rfl (lv_at hl 3 rfl) ?_
  refine lv_iload_n hx hb dL_law_1218 rfl (lv_at hl 0 rfl) ?_
  refine lv_iconst (v := 2) hx hb dL_law_1219 (by decide) ?_
  refine lv_iadd hx hb dL_law_1220 ?_
  refine va_sld hx hb hX hbl hbA G.2.2 (lw_in hL hi 2 (by decide)) dL_law_1221 ?_
  refine lcX (As := [.int (xs (i + 1).toNatClampNeg), .int (xs (i + 2).toNatClampNeg)]) X K (fun _ h => h) G (fun A' => c_X6_chance h1) q_809 my_X6_chance ⟨rfl, rfl⟩ ⟨by decide, by decide⟩ ⟨by decide, by decide⟩ rfl hl.1 rfl (Nat.le_of_ble_eq_true rfl) dL_law_1222 (fun H locs G => ?_)
  refine lv_aload_n hx hb dL_law_1225 rfl (lv_at hl 1 rfl) ?_
  refine lv_aload_n hx hb dL_law_1226 rfl (lv_at hl 3 rfl) ?_
  refine lv_iload_n hx hb dL_law_1227 rfl (lv_at hl 0 rfl) ?_
  refine lv_iconst (v := 1) hx hb dL_law_1228 (by decide) ?_
  refine lv_iadd hx hb dL_law_1229 ?_
  refine va_sld hx hb hX hbl hbA G.2.2 (lw_in hL hi 1 (by decide)) dL_law_1230 ?_
  refine lv_aload_n hx hb dL_law_1231 rfl (lv_at hl 3 rfl) ?_
  refine lv_iload_n hx hb dL_law_1232 rfl (lv_at hl 0 rfl) ?_
  refine lv_iconst (v := 2) hx hb dL_law_1233 (by decide) ?_
  refine lv_iadd hx hb dL_law_1234 ?_
  refine va_sld hx hb hX hbl hbA G.2.2 (lw_in hL hi 2 (by decide)) dL_law_1235 ?_
  refine lcM (As := [.int (xs (i + 1).toNatClampNeg), .int (xs (i + 2).toNatClampNeg)]) X K (fun _ h => h) G (fun A' => c_X7_chance h2) q_1309 my_X7_chance ⟨rfl, rfl⟩ ⟨by decide, by decide⟩ ⟨by decide, by decide⟩ rfl hl.1 rfl (Nat.le_of_ble_eq_true rfl) dL_law_1236 (fun H locs G => ?_)
  exact lv_icmp_eq (tgt := 1623) hx hb dL_law_1239 (by decide) (fun _ => kk _ _ _ _ h3 G) (fun q => absurd rfl q)
theorem law_seed : lK 1244 := by
  intro p l e s m below meth c b L xs hL C0 D cI cZ cQ adK adV adx adm K σ τ h H locs G i hi ls hl Q kk
  have X := at_cx C0
  have hx := X.1
  have hb := X.2.1
  have hX := C0.2.2.2.2.2.2.1
  have hbl : b < s.heap.size := C0.2.2.2.2.2.2.2.1
  have hbA : ¬ s.heap.size ≤ b := Nat.not_le.mpr hbl
  obtain ⟨r, σ', τ', h1, h2, h3⟩ := op_seed h (xs (i + 1).toNatClampNeg)
  refine lv_aload_n hx hb dL_law_1244 rfl (lv_at hl 2 rfl) ?_
  refine lv_aload_n hx hb dL_law_1245 rfl (lv_at hl 3 rfl) ?_
  refine lv_iload_n hx hb dL_law_1246 rfl (lv_at hl 0 rfl) ?_
  refine lv_iconst (v := 1) hx hb dL_law_1247 (by decide) ?_
  refine lv_iadd hx hb dL_law_1248 ?_
  refine va_sld hx hb hX hbl hbA G.2.2 (lw_in hL hi 1 (by decide)) dL_law_1249 ?_
  refine lcX (As := [.int (xs (i + 1).toNatClampNeg)]) X K (fun _ h => h) G (fun A' => c_X6_seed h1) q_818 my_X6_seed ⟨rfl, rfl⟩ ⟨by decide, by decide⟩ ⟨by decide, by decide⟩ rfl hl.1 rfl (Nat.le_of_ble_eq_true rfl) dL_law_1250 (fun H locs G => ?_)
  refine lv_aload_n hx hb dL_law_1253 rfl (lv_at hl 1 rfl) ?_
  refine lv_aload_n hx hb dL_law_1254 rfl (lv_at hl 3 rfl) ?_
  refine lv_iload_n hx hb dL_law_1255 rfl (lv_at hl 0 rfl) ?_
  refine lv_iconst (v := 1) hx hb dL_law_1256 (by decide) ?_
  refine lv_iadd hx hb dL_law_1257 ?_
  refine va_sld hx hb hX hbl hbA G.2.2 (lw_in hL hi 1 (by decide)) dL_law_1258 ?_
  refine lcM (As := [.int (xs (i + 1).toNatClampNeg)]) X K (fun _ h => h) G (fun A' => c_X7_seed h2) q_1315 my_X7_seed ⟨rfl, rfl⟩ ⟨by decide, by decide⟩ ⟨by decide, by decide⟩ rfl hl.1 rfl (Nat.le_of_ble_eq_true rfl) dL_law_1259 (fun H locs G => ?_)
  exact lv_icmp_eq (tgt := 1623) hx hb dL_law_1262 (by decide) (fun _ => kk _ _ _ _ h3 G) (fun q => absurd rfl q)
theorem law_hold : lK 1267 := by
  intro p l e s m below meth c b L xs hL C0 D cI cZ cQ adK adV adx adm K σ τ h H locs G i hi ls hl Q kk
  have X := at_cx C0
  have hx := X.1
  have hb := X.2.1
  have hX := C0.2.2.2.2.2.2.1
  have hbl : b < s.heap.size := C0.2.2.2.2.2.2.2.1
  have hbA : ¬ s.heap.size ≤ b := Nat.not_le.mpr hbl
  obtain ⟨r, σ', τ', h1, h2, h3⟩ := op_hold h (xs (i + 1).toNatClampNeg) (xs (i + 2).toNatClampNeg)
  refine lv_aload_n hx hb dL_law_1267 rfl (lv_at hl 2 rfl) ?_
  refine lv_aload_n hx hb dL_law_1268 rfl (lv_at hl 3 rfl) ?_
  refine lv_iload_n hx hb dL_law_1269 rfl (lv_at hl 0 rfl) ?_
  refine lv_iconst (v := 1) hx hb dL_law_1270 (by decide) ?_
  refine lv_iadd hx hb dL_law_1271 ?_
  refine va_sld hx hb hX hbl hbA G.2.2 (lw_in hL hi 1 (by decide)) dL_law_1272 ?_
  refine lv_aload_n hx hb dL_law_1273 rfl (lv_at hl 3 rfl) ?_
  refine lv_iload_n hx hb dL_law_1274 rfl (lv_at hl 0 rfl) ?_
  refine lv_iconst (v := 2) hx hb dL_law_1275 (by decide) ?_
  refine lv_iadd hx hb dL_law_1276 ?_
  refine va_sld hx hb hX hbl hbA G.2.2 (lw_in hL hi 2 (by decide)) dL_law_1277 ?_
  refine lcX (As := [.int (xs (i + 1).toNatClampNeg), .int (xs (i + 2).toNatClampNeg)]) X K (fun _ h => h) G (fun A' => c_X6_hold h1) q_822 my_X6_hold ⟨rfl, rfl⟩ ⟨by decide, by decide⟩ ⟨by decide, by decide⟩ rfl hl.1 rfl (Nat.le_of_ble_eq_true rfl) dL_law_1278 (fun H locs G => ?_)
  refine lv_aload_n hx hb dL_law_1281 rfl (lv_at hl 1 rfl) ?_
  refine lv_aload_n hx hb dL_law_1282 rfl (lv_at hl 3 rfl) ?_
  refine lv_iload_n hx hb dL_law_1283 rfl (lv_at hl 0 rfl) ?_
  refine lv_iconst (v := 1) hx hb dL_law_1284 (by decide) ?_
  refine lv_iadd hx hb dL_law_1285 ?_
  refine va_sld hx hb hX hbl hbA G.2.2 (lw_in hL hi 1 (by decide)) dL_law_1286 ?_
  refine lv_aload_n hx hb dL_law_1287 rfl (lv_at hl 3 rfl) ?_
  refine lv_iload_n hx hb dL_law_1288 rfl (lv_at hl 0 rfl) ?_
  refine lv_iconst (v := 2) hx hb dL_law_1289 (by decide) ?_
  refine lv_iadd hx hb dL_law_1290 ?_
  refine va_sld hx hb hX hbl hbA G.2.2 (lw_in hL hi 2 (by decide)) dL_law_1291 ?_
  refine lcM (As := [.int (xs (i + 1).toNatClampNeg), .int (xs (i + 2).toNatClampNeg)]) X K (fun _ h => h) G (fun A' => c_X7_hold h2) q_1319 my_X7_hold ⟨rfl, rfl⟩ ⟨by decide, by decide⟩ ⟨by decide, by decide⟩ rfl hl.1 rfl (Nat.le_of_ble_eq_true rfl) dL_law_1292 (fun H locs G => ?_)
  exact lv_icmp_eq (tgt := 1623) hx hb dL_law_1295 (by decide) (fun _ => kk _ _ _ _ h3 G) (fun q => absurd rfl q)
theorem law_as : lK 1300 := by
  intro p l e s m below meth c b L xs hL C0 D cI cZ cQ adK adV adx adm K σ τ h H locs G i hi ls hl Q kk
  have X := at_cx C0
  have hx := X.1
  have hb := X.2.1
  have hX := C0.2.2.2.2.2.2.1
  have hbl : b < s.heap.size := C0.2.2.2.2.2.2.2.1
  have hbA : ¬ s.heap.size ≤ b := Nat.not_le.mpr hbl
  obtain ⟨r, σ', τ', h1, h2, h3⟩ := op_as h (xs (i + 1).toNatClampNeg) (xs (i + 2).toNatClampNeg)
  refine lv_aload_n hx hb dL_law_1300 rfl (lv_at hl 2 rfl) ?_
  refine lv_aload_n hx hb dL_law_1301 rfl (lv_at hl 3 rfl) ?_
  refine lv_iload_n hx hb dL_law_1302 rfl (lv_at hl 0 rfl) ?_
  refine lv_iconst (v := 1) hx hb dL_law_1303 (by decide) ?_
  refine lv_iadd hx hb dL_law_1304 ?_
  refine va_sld hx hb hX hbl hbA G.2.2 (lw_in hL hi 1 (by decide)) dL_law_1305 ?_
  refine lv_aload_n hx hb dL_law_1306 rfl (lv_at hl 3 rfl) ?_
  refine lv_iload_n hx hb dL_law_1307 rfl (lv_at hl 0 rfl) ?_
  refine lv_iconst (v := 2) hx hb dL_law_1308 (by decide) ?_
  refine lv_iadd hx hb dL_law_1309 ?_
  refine va_sld hx hb hX hbl hbA G.2.2 (lw_in hL hi 2 (by decide)) dL_law_1310 ?_
  refine lcX (As := [.int (xs (i + 1).toNatClampNeg), .int (xs (i + 2).toNatClampNeg)]) X K (fun _ h => h) G (fun A' => c_X6_as h1) q_826 my_X6_as ⟨rfl, rfl⟩ ⟨by decide, by decide⟩ ⟨by decide, by decide⟩ rfl hl.1 rfl (Nat.le_of_ble_eq_true rfl) dL_law_1311 (fun H locs G => ?_)
  refine lv_aload_n hx hb dL_law_1314 rfl (lv_at hl 1 rfl) ?_
  refine lv_aload_n hx hb dL_law_1315 rfl (lv_at hl 3 rfl) ?_
  refine lv_iload_n hx hb dL_law_1316 rfl (lv_at hl 0 rfl) ?_
  refine lv_iconst (v := 1) hx hb dL_law_1317 (by decide) ?_
  refine lv_iadd hx hb dL_law_1318 ?_
  refine va_sld hx hb hX hbl hbA G.2.2 (lw_in hL hi 1 (by decide)) dL_law_1319 ?_
  refine lv_aload_n hx hb dL_law_1320 rfl (lv_at hl 3 rfl) ?_
  refine lv_iload_n hx hb dL_law_1321 rfl (lv_at hl 0 rfl) ?_
  refine lv_iconst (v := 2) hx hb dL_law_1322 (by decide) ?_
  refine lv_iadd hx hb dL_law_1323 ?_
  refine va_sld hx hb hX hbl hbA G.2.2 (lw_in hL hi 2 (by decide)) dL_law_1324 ?_
  refine lcM (As := [.int (xs (i + 1).toNatClampNeg), .int (xs (i + 2).toNatClampNeg)]) X K (fun _ h => h) G (fun A' => c_X7_as h2) q_1324 my_X7_as ⟨rfl, rfl⟩ ⟨by decide, by decide⟩ ⟨by decide, by decide⟩ rfl hl.1 rfl (Nat.le_of_ble_eq_true rfl) dL_law_1325 (fun H locs G => ?_)
  exact lv_icmp_eq (tgt := 1623) hx hb dL_law_1328 (by decide) (fun _ => kk _ _ _ _ h3 G) (fun q => absurd rfl q)
theorem law_sheet : lK 1333 := by
  intro p l e s m below meth c b L xs hL C0 D cI cZ cQ adK adV adx adm K σ τ h H locs G i hi ls hl Q kk
  have X := at_cx C0
  have hx := X.1
  have hb := X.2.1
  have hX := C0.2.2.2.2.2.2.1
  have hbl : b < s.heap.size := C0.2.2.2.2.2.2.2.1
  have hbA : ¬ s.heap.size ≤ b := Nat.not_le.mpr hbl
  obtain ⟨r, σ', τ', h1, h2, h3⟩ := op_sheet h (xs (i + 1).toNatClampNeg) (xs (i + 2).toNatClampNeg) (xs (i + 3).toNatClampNeg)
  refine lv_aload_n hx hb dL_law_1333 rfl (lv_at hl 2 rfl) ?_
  refine lv_aload_n hx hb dL_law_1334 rfl (lv_at hl 3 rfl) ?_
  refine lv_iload_n hx hb dL_law_1335 rfl (lv_at hl 0 rfl) ?_
  refine lv_iconst (v := 1) hx hb dL_law_1336 (by decide) ?_
  refine lv_iadd hx hb dL_law_1337 ?_
  refine va_sld hx hb hX hbl hbA G.2.2 (lw_in hL hi 1 (by decide)) dL_law_1338 ?_
  refine lv_aload_n hx hb dL_law_1339 rfl (lv_at hl 3 rfl) ?_
  refine lv_iload_n hx hb dL_law_1340 rfl (lv_at hl 0 rfl) ?_
  refine lv_iconst (v := 2) hx hb dL_law_1341 (by decide) ?_
  refine lv_iadd hx hb dL_law_1342 ?_
  refine va_sld hx hb hX hbl hbA G.2.2 (lw_in hL hi 2 (by decide)) dL_law_1343 ?_
  refine lv_aload_n hx hb dL_law_1344 rfl (lv_at hl 3 rfl) ?_
  refine lv_iload_n hx hb dL_law_1345 rfl (lv_at hl 0 rfl) ?_
  refine lv_iconst (v := 3) hx hb dL_law_1346 (by decide) ?_
  refine lv_iadd hx hb dL_law_1347 ?_
  refine va_sld hx hb hX hbl hbA G.2.2 (lw_in hL hi 3 (by decide)) dL_law_1348 ?_
  refine lcX (As := [.int (xs (i + 1).toNatClampNeg), .int (xs (i + 2).toNatClampNeg), .int (xs (i + 3).toNatClampNeg)]) X K (fun _ h => h) G (fun A' => c_X6_sheet h1) q_836 my_X6_sheet ⟨rfl, rfl⟩ ⟨by decide, by decide⟩ ⟨by decide, by decide⟩ rfl hl.1 rfl (Nat.le_of_ble_eq_true rfl) dL_law_1349 (fun H locs G => ?_)
  refine lv_aload_n hx hb dL_law_1352 rfl (lv_at hl 1 rfl) ?_
  refine lv_aload_n hx hb dL_law_1353 rfl (lv_at hl 3 rfl) ?_
  refine lv_iload_n hx hb dL_law_1354 rfl (lv_at hl 0 rfl) ?_
  refine lv_iconst (v := 1) hx hb dL_law_1355 (by decide) ?_
  refine lv_iadd hx hb dL_law_1356 ?_
  refine va_sld hx hb hX hbl hbA G.2.2 (lw_in hL hi 1 (by decide)) dL_law_1357 ?_
  refine lv_aload_n hx hb dL_law_1358 rfl (lv_at hl 3 rfl) ?_
  refine lv_iload_n hx hb dL_law_1359 rfl (lv_at hl 0 rfl) ?_
  refine lv_iconst (v := 2) hx hb dL_law_1360 (by decide) ?_
  refine lv_iadd hx hb dL_law_1361 ?_
  refine va_sld hx hb hX hbl hbA G.2.2 (lw_in hL hi 2 (by decide)) dL_law_1362 ?_
  refine lv_aload_n hx hb dL_law_1363 rfl (lv_at hl 3 rfl) ?_
  refine lv_iload_n hx hb dL_law_1364 rfl (lv_at hl 0 rfl) ?_
  refine lv_iconst (v := 3) hx hb dL_law_1365 (by decide) ?_
  refine lv_iadd hx hb dL_law_1366 ?_
  refine va_sld hx hb hX hbl hbA G.2.2 (lw_in hL hi 3 (by decide)) dL_law_1367 ?_
  refine lcM (As := [.int (xs (i + 1).toNatClampNeg), .int (xs (i + 2).toNatClampNeg), .int (xs (i + 3).toNatClampNeg)]) X K (fun _ h => h) G (fun A' => c_X7_sheet h2) q_1333 my_X7_sheet ⟨rfl, rfl⟩ ⟨by decide, by decide⟩ ⟨by decide, by decide⟩ rfl hl.1 rfl (Nat.le_of_ble_eq_true rfl) dL_law_1368 (fun H locs G => ?_)
  exact lv_icmp_eq (tgt := 1623) hx hb dL_law_1371 (by decide) (fun _ => kk _ _ _ _ h3 G) (fun q => absurd rfl q)
theorem law_write : lK 1376 := by
  intro p l e s m below meth c b L xs hL C0 D cI cZ cQ adK adV adx adm K σ τ h H locs G i hi ls hl Q kk
  have X := at_cx C0
  have hx := X.1
  have hb := X.2.1
  have hX := C0.2.2.2.2.2.2.1
  have hbl : b < s.heap.size := C0.2.2.2.2.2.2.2.1
  have hbA : ¬ s.heap.size ≤ b := Nat.not_le.mpr hbl
  obtain ⟨r, σ', τ', h1, h2, h3⟩ := op_write h (xs (i + 1).toNatClampNeg) (xs (i + 2).toNatClampNeg) (xs (i + 3).toNatClampNeg)
  refine lv_aload_n hx hb dL_law_1376 rfl (lv_at hl 2 rfl) ?_
  refine lv_aload_n hx hb dL_law_1377 rfl (lv_at hl 3 rfl) ?_
  refine lv_iload_n hx hb dL_law_1378 rfl (lv_at hl 0 rfl) ?_
  refine lv_iconst (v := 1) hx hb dL_law_1379 (by decide) ?_
  refine lv_iadd hx hb dL_law_1380 ?_
  refine va_sld hx hb hX hbl hbA G.2.2 (lw_in hL hi 1 (by decide)) dL_law_1381 ?_
  refine lv_aload_n hx hb dL_law_1382 rfl (lv_at hl 3 rfl) ?_
  refine lv_iload_n hx hb dL_law_1383 rfl (lv_at hl 0 rfl) ?_
  refine lv_iconst (v := 2) hx hb dL_law_1384 (by decide) ?_
  refine lv_iadd hx hb dL_law_1385 ?_
  refine va_sld hx hb hX hbl hbA G.2.2 (lw_in hL hi 2 (by decide)) dL_law_1386 ?_
  refine lv_aload_n hx hb dL_law_1387 rfl (lv_at hl 3 rfl) ?_
  refine lv_iload_n hx hb dL_law_1388 rfl (lv_at hl 0 rfl) ?_
  refine lv_iconst (v := 3) hx hb dL_law_1389 (by decide) ?_
  refine lv_iadd hx hb dL_law_1390 ?_
  refine va_sld hx hb hX hbl hbA G.2.2 (lw_in hL hi 3 (by decide)) dL_law_1391 ?_
  refine lcX (As := [.int (xs (i + 1).toNatClampNeg), .int (xs (i + 2).toNatClampNeg), .int (xs (i + 3).toNatClampNeg)]) X K (fun _ h => h) G (fun A' => c_X6_write h1) q_847 my_X6_write ⟨rfl, rfl⟩ ⟨by decide, by decide⟩ ⟨by decide, by decide⟩ rfl hl.1 rfl (Nat.le_of_ble_eq_true rfl) dL_law_1392 (fun H locs G => ?_)
  refine lv_aload_n hx hb dL_law_1395 rfl (lv_at hl 1 rfl) ?_
  refine lv_aload_n hx hb dL_law_1396 rfl (lv_at hl 3 rfl) ?_
  refine lv_iload_n hx hb dL_law_1397 rfl (lv_at hl 0 rfl) ?_
  refine lv_iconst (v := 1) hx hb dL_law_1398 (by decide) ?_
  refine lv_iadd hx hb dL_law_1399 ?_
  refine va_sld hx hb hX hbl hbA G.2.2 (lw_in hL hi 1 (by decide)) dL_law_1400 ?_
  refine lv_aload_n hx hb dL_law_1401 rfl (lv_at hl 3 rfl) ?_
  refine lv_iload_n hx hb dL_law_1402 rfl (lv_at hl 0 rfl) ?_
  refine lv_iconst (v := 2) hx hb dL_law_1403 (by decide) ?_
  refine lv_iadd hx hb dL_law_1404 ?_
  refine va_sld hx hb hX hbl hbA G.2.2 (lw_in hL hi 2 (by decide)) dL_law_1405 ?_
  refine lv_aload_n hx hb dL_law_1406 rfl (lv_at hl 3 rfl) ?_
  refine lv_iload_n hx hb dL_law_1407 rfl (lv_at hl 0 rfl) ?_
  refine lv_iconst (v := 3) hx hb dL_law_1408 (by decide) ?_
  refine lv_iadd hx hb dL_law_1409 ?_
  refine va_sld hx hb hX hbl hbA G.2.2 (lw_in hL hi 3 (by decide)) dL_law_1410 ?_
  refine lcM (As := [.int (xs (i + 1).toNatClampNeg), .int (xs (i + 2).toNatClampNeg), .int (xs (i + 3).toNatClampNeg)]) X K (fun _ h => h) G (fun A' => c_X7_write h2) q_1342 my_X7_write ⟨rfl, rfl⟩ ⟨by decide, by decide⟩ ⟨by decide, by decide⟩ rfl hl.1 rfl (Nat.le_of_ble_eq_true rfl) dL_law_1411 (fun H locs G => ?_)
  exact lv_icmp_eq (tgt := 1623) hx hb dL_law_1414 (by decide) (fun _ => kk _ _ _ _ h3 G) (fun q => absurd rfl q)
theorem law_copy : lK 1419 := by
  intro p l e s m below meth c b L xs hL C0 D cI cZ cQ adK adV adx adm K σ τ h H locs G i hi ls hl Q kk
  have X := at_cx C0
  have hx := X.1
  have hb := X.2.1
  have hX := C0.2.2.2.2.2.2.1
  have hbl : b < s.heap.size := C0.2.2.2.2.2.2.2.1
  have hbA : ¬ s.heap.size ≤ b := Nat.not_le.mpr hbl
  obtain ⟨r, σ', τ', h1, h2, h3⟩ := op_copy h (xs (i + 1).toNatClampNeg) (xs (i + 2).toNatClampNeg) (xs (i + 3).toNatClampNeg) (xs (i + 4).toNatClampNeg) (xs (i + 5).toNatClampNeg)
  refine lv_aload_n hx hb dL_law_1419 rfl (lv_at hl 2 rfl) ?_
  refine lv_aload_n hx hb dL_law_1420 rfl (lv_at hl 3 rfl) ?_
  refine lv_iload_n hx hb dL_law_1421 rfl (lv_at hl 0 rfl) ?_
  refine lv_iconst (v := 1) hx hb dL_law_1422 (by decide) ?_
  refine lv_iadd hx hb dL_law_1423 ?_
  refine va_sld hx hb hX hbl hbA G.2.2 (lw_in hL hi 1 (by decide)) dL_law_1424 ?_
  refine lv_aload_n hx hb dL_law_1425 rfl (lv_at hl 3 rfl) ?_
  refine lv_iload_n hx hb dL_law_1426 rfl (lv_at hl 0 rfl) ?_
  refine lv_iconst (v := 2) hx hb dL_law_1427 (by decide) ?_
  refine lv_iadd hx hb dL_law_1428 ?_
  refine va_sld hx hb hX hbl hbA G.2.2 (lw_in hL hi 2 (by decide)) dL_law_1429 ?_
  refine lv_aload_n hx hb dL_law_1430 rfl (lv_at hl 3 rfl) ?_
  refine lv_iload_n hx hb dL_law_1431 rfl (lv_at hl 0 rfl) ?_
  refine lv_iconst (v := 3) hx hb dL_law_1432 (by decide) ?_
  refine lv_iadd hx hb dL_law_1433 ?_
  refine va_sld hx hb hX hbl hbA G.2.2 (lw_in hL hi 3 (by decide)) dL_law_1434 ?_
  refine lv_aload_n hx hb dL_law_1435 rfl (lv_at hl 3 rfl) ?_
  refine lv_iload_n hx hb dL_law_1436 rfl (lv_at hl 0 rfl) ?_
  refine lv_iconst (v := 4) hx hb dL_law_1437 (by decide) ?_
  refine lv_iadd hx hb dL_law_1438 ?_
  refine va_sld hx hb hX hbl hbA G.2.2 (lw_in hL hi 4 (by decide)) dL_law_1439 ?_
  refine lv_aload_n hx hb dL_law_1440 rfl (lv_at hl 3 rfl) ?_
  refine lv_iload_n hx hb dL_law_1441 rfl (lv_at hl 0 rfl) ?_
  refine lv_iconst (v := 5) hx hb dL_law_1442 (by decide) ?_
  refine lv_iadd hx hb dL_law_1443 ?_
  refine va_sld hx hb hX hbl hbA G.2.2 (lw_in hL hi 5 (by decide)) dL_law_1444 ?_
  refine lcX (As := [.int (xs (i + 1).toNatClampNeg), .int (xs (i + 2).toNatClampNeg), .int (xs (i + 3).toNatClampNeg), .int (xs (i + 4).toNatClampNeg), .int (xs (i + 5).toNatClampNeg)]) X K (fun _ h => h) G (fun A' => c_X6_copy h1) q_855 my_X6_copy ⟨rfl, rfl⟩ ⟨by decide, by decide⟩ ⟨by decide, by decide⟩ rfl hl.1 rfl (Nat.le_of_ble_eq_true rfl) dL_law_1445 (fun H locs G => ?_)
  refine lv_aload_n hx hb dL_law_1448 rfl (lv_at hl 1 rfl) ?_
  refine lv_aload_n hx hb dL_law_1449 rfl (lv_at hl 3 rfl) ?_
  refine lv_iload_n hx hb dL_law_1450 rfl (lv_at hl 0 rfl) ?_
  refine lv_iconst (v := 1) hx hb dL_law_1451 (by decide) ?_
  refine lv_iadd hx hb dL_law_1452 ?_
  refine va_sld hx hb hX hbl hbA G.2.2 (lw_in hL hi 1 (by decide)) dL_law_1453 ?_
  refine lv_aload_n hx hb dL_law_1454 rfl (lv_at hl 3 rfl) ?_
  refine lv_iload_n hx hb dL_law_1455 rfl (lv_at hl 0 rfl) ?_
  refine lv_iconst (v := 2) hx hb dL_law_1456 (by decide) ?_
  refine lv_iadd hx hb dL_law_1457 ?_
  refine va_sld hx hb hX hbl hbA G.2.2 (lw_in hL hi 2 (by decide)) dL_law_1458 ?_
  refine lv_aload_n hx hb dL_law_1459 rfl (lv_at hl 3 rfl) ?_
  refine lv_iload_n hx hb dL_law_1460 rfl (lv_at hl 0 rfl) ?_
  refine lv_iconst (v := 3) hx hb dL_law_1461 (by decide) ?_
  refine lv_iadd hx hb dL_law_1462 ?_
  refine va_sld hx hb hX hbl hbA G.2.2 (lw_in hL hi 3 (by decide)) dL_law_1463 ?_
  refine lv_aload_n hx hb dL_law_1464 rfl (lv_at hl 3 rfl) ?_
  refine lv_iload_n hx hb dL_law_1465 rfl (lv_at hl 0 rfl) ?_
  refine lv_iconst (v := 4) hx hb dL_law_1466 (by decide) ?_
  refine lv_iadd hx hb dL_law_1467 ?_
  refine va_sld hx hb hX hbl hbA G.2.2 (lw_in hL hi 4 (by decide)) dL_law_1468 ?_
  refine lv_aload_n hx hb dL_law_1469 rfl (lv_at hl 3 rfl) ?_
  refine lv_iload_n hx hb dL_law_1470 rfl (lv_at hl 0 rfl) ?_
  refine lv_iconst (v := 5) hx hb dL_law_1471 (by decide) ?_
  refine lv_iadd hx hb dL_law_1472 ?_
  refine va_sld hx hb hX hbl hbA G.2.2 (lw_in hL hi 5 (by decide)) dL_law_1473 ?_
  refine lcM (As := [.int (xs (i + 1).toNatClampNeg), .int (xs (i + 2).toNatClampNeg), .int (xs (i + 3).toNatClampNeg), .int (xs (i + 4).toNatClampNeg), .int (xs (i + 5).toNatClampNeg)]) X K (fun _ h => h) G (fun A' => c_X7_copy h2) q_1346 my_X7_copy ⟨rfl, rfl⟩ ⟨by decide, by decide⟩ ⟨by decide, by decide⟩ rfl hl.1 rfl (Nat.le_of_ble_eq_true rfl) dL_law_1474 (fun H locs G => ?_)
  exact lv_icmp_eq (tgt := 1623) hx hb dL_law_1477 (by decide) (fun _ => kk _ _ _ _ h3 G) (fun q => absurd rfl q)
theorem law_load : lK 1482 := by
  intro p l e s m below meth c b L xs hL C0 D cI cZ cQ adK adV adx adm K σ τ h H locs G i hi ls hl Q kk
  have X := at_cx C0
  have hx := X.1
  have hb := X.2.1
  have hX := C0.2.2.2.2.2.2.1
  have hbl : b < s.heap.size := C0.2.2.2.2.2.2.2.1
  have hbA : ¬ s.heap.size ≤ b := Nat.not_le.mpr hbl
  obtain ⟨r, σ', τ', h1, h2, h3⟩ := op_load h (xs (i + 1).toNatClampNeg)
  refine lv_aload_n hx hb dL_law_1482 rfl (lv_at hl 2 rfl) ?_
  refine lv_aload_n hx hb dL_law_1483 rfl (lv_at hl 3 rfl) ?_
  refine lv_iload_n hx hb dL_law_1484 rfl (lv_at hl 0 rfl) ?_
  refine lv_iconst (v := 1) hx hb dL_law_1485 (by decide) ?_
  refine lv_iadd hx hb dL_law_1486 ?_
  refine va_sld hx hb hX hbl hbA G.2.2 (lw_in hL hi 1 (by decide)) dL_law_1487 ?_
  refine lcX (As := [.int (xs (i + 1).toNatClampNeg)]) X K (fun _ h => h) G (fun A' => c_X6_load h1) q_864 my_X6_load ⟨rfl, rfl⟩ ⟨by decide, by decide⟩ ⟨by decide, by decide⟩ rfl hl.1 rfl (Nat.le_of_ble_eq_true rfl) dL_law_1488 (fun H locs G => ?_)
  refine lv_aload_n hx hb dL_law_1491 rfl (lv_at hl 1 rfl) ?_
  refine lv_aload_n hx hb dL_law_1492 rfl (lv_at hl 3 rfl) ?_
  refine lv_iload_n hx hb dL_law_1493 rfl (lv_at hl 0 rfl) ?_
  refine lv_iconst (v := 1) hx hb dL_law_1494 (by decide) ?_
  refine lv_iadd hx hb dL_law_1495 ?_
  refine va_sld hx hb hX hbl hbA G.2.2 (lw_in hL hi 1 (by decide)) dL_law_1496 ?_
  refine lcM (As := [.int (xs (i + 1).toNatClampNeg)]) X K (fun _ h => h) G (fun A' => c_X7_load h2) q_1350 my_X7_load ⟨rfl, rfl⟩ ⟨by decide, by decide⟩ ⟨by decide, by decide⟩ rfl hl.1 rfl (Nat.le_of_ble_eq_true rfl) dL_law_1497 (fun H locs G => ?_)
  exact lv_icmp_eq (tgt := 1623) hx hb dL_law_1500 (by decide) (fun _ => kk _ _ _ _ h3 G) (fun q => absurd rfl q)
theorem law_judge : lK 1505 := by
  intro p l e s m below meth c b L xs hL C0 D cI cZ cQ adK adV adx adm K σ τ h H locs G i hi ls hl Q kk
  have X := at_cx C0
  have hx := X.1
  have hb := X.2.1
  have hX := C0.2.2.2.2.2.2.1
  have hbl : b < s.heap.size := C0.2.2.2.2.2.2.2.1
  have hbA : ¬ s.heap.size ≤ b := Nat.not_le.mpr hbl
  obtain ⟨r, σ', τ', h1, h2, h3⟩ := op_judge h (xs (i + 1).toNatClampNeg) (xs (i + 2).toNatClampNeg)
  refine lv_aload_n hx hb dL_law_1505 rfl (lv_at hl 2 rfl) ?_
  refine lv_aload_n hx hb dL_law_1506 rfl (lv_at hl 3 rfl) ?_
  refine lv_iload_n hx hb dL_law_1507 rfl (lv_at hl 0 rfl) ?_
  refine lv_iconst (v := 1) hx hb dL_law_1508 (by decide) ?_
  refine lv_iadd hx hb dL_law_1509 ?_
  refine va_sld hx hb hX hbl hbA G.2.2 (lw_in hL hi 1 (by decide)) dL_law_1510 ?_
  refine lv_aload_n hx hb dL_law_1511 rfl (lv_at hl 3 rfl) ?_
  refine lv_iload_n hx hb dL_law_1512 rfl (lv_at hl 0 rfl) ?_
  refine lv_iconst (v := 2) hx hb dL_law_1513 (by decide) ?_
  refine lv_iadd hx hb dL_law_1514 ?_
  refine va_sld hx hb hX hbl hbA G.2.2 (lw_in hL hi 2 (by decide)) dL_law_1515 ?_
  refine lcX (As := [.int (xs (i + 1).toNatClampNeg), .int (xs (i + 2).toNatClampNeg)]) X K (fun _ h => h) G (fun A' => c_X6_judge h1) q_868 my_X6_judge ⟨rfl, rfl⟩ ⟨by decide, by decide⟩ ⟨by decide, by decide⟩ rfl hl.1 rfl (Nat.le_of_ble_eq_true rfl) dL_law_1516 (fun H locs G => ?_)
  refine lv_aload_n hx hb dL_law_1519 rfl (lv_at hl 1 rfl) ?_
  refine lv_aload_n hx hb dL_law_1520 rfl (lv_at hl 3 rfl) ?_
  refine lv_iload_n hx hb dL_law_1521 rfl (lv_at hl 0 rfl) ?_
  refine lv_iconst (v := 1) hx hb dL_law_1522 (by decide) ?_
  refine lv_iadd hx hb dL_law_1523 ?_
  refine va_sld hx hb hX hbl hbA G.2.2 (lw_in hL hi 1 (by decide)) dL_law_1524 ?_
  refine lv_aload_n hx hb dL_law_1525 rfl (lv_at hl 3 rfl) ?_
  refine lv_iload_n hx hb dL_law_1526 rfl (lv_at hl 0 rfl) ?_
  refine lv_iconst (v := 2) hx hb dL_law_1527 (by decide) ?_
  refine lv_iadd hx hb dL_law_1528 ?_
  refine va_sld hx hb hX hbl hbA G.2.2 (lw_in hL hi 2 (by decide)) dL_law_1529 ?_
  refine lcM (As := [.int (xs (i + 1).toNatClampNeg), .int (xs (i + 2).toNatClampNeg)]) X K (fun _ h => h) G (fun A' => c_X7_judge h2) q_1354 my_X7_judge ⟨rfl, rfl⟩ ⟨by decide, by decide⟩ ⟨by decide, by decide⟩ rfl hl.1 rfl (Nat.le_of_ble_eq_true rfl) dL_law_1530 (fun H locs G => ?_)
  exact lv_icmp_eq (tgt := 1623) hx hb dL_law_1533 (by decide) (fun _ => kk _ _ _ _ h3 G) (fun q => absurd rfl q)
theorem law_image : lK 1538 := by
  intro p l e s m below meth c b L xs hL C0 D cI cZ cQ adK adV adx adm K σ τ h H locs G i hi ls hl Q kk
  have X := at_cx C0
  have hx := X.1
  have hb := X.2.1
  have hX := C0.2.2.2.2.2.2.1
  have hbl : b < s.heap.size := C0.2.2.2.2.2.2.2.1
  have hbA : ¬ s.heap.size ≤ b := Nat.not_le.mpr hbl
  obtain ⟨r, σ', τ', h1, h2, h3⟩ := op_image h 
  refine lv_aload_n hx hb dL_law_1538 rfl (lv_at hl 2 rfl) ?_
  refine lcX (As := []) X K (fun _ h => h) G (fun A' => c_X6_image h1) q_876 my_X6_image ⟨rfl, rfl⟩ ⟨by decide, by decide⟩ ⟨by decide, by decide⟩ rfl hl.1 rfl (Nat.le_of_ble_eq_true rfl) dL_law_1539 (fun H locs G => ?_)
  refine lv_aload_n hx hb dL_law_1542 rfl (lv_at hl 1 rfl) ?_
  refine lcM (As := []) X K (fun _ h => h) G (fun A' => c_X7_image h2) q_1362 my_X7_image ⟨rfl, rfl⟩ ⟨by decide, by decide⟩ ⟨by decide, by decide⟩ rfl hl.1 rfl (Nat.le_of_ble_eq_true rfl) dL_law_1543 (fun H locs G => ?_)
  exact lv_icmp_eq (tgt := 1623) hx hb dL_law_1546 (by decide) (fun _ => kk _ _ _ _ h3 G) (fun q => absurd rfl q)
theorem law_undo : lK 1551 := by
  intro p l e s m below meth c b L xs hL C0 D cI cZ cQ adK adV adx adm K σ τ h H locs G i hi ls hl Q kk
  have X := at_cx C0
  have hx := X.1
  have hb := X.2.1
  have hX := C0.2.2.2.2.2.2.1
  have hbl : b < s.heap.size := C0.2.2.2.2.2.2.2.1
  have hbA : ¬ s.heap.size ≤ b := Nat.not_le.mpr hbl
  obtain ⟨r, σ', τ', h1, h2, h3⟩ := op_undo h 
  refine lv_aload_n hx hb dL_law_1551 rfl (lv_at hl 2 rfl) ?_
  refine lcX (As := []) X K (fun _ h => h) G (fun A' => c_X6_undo h1) q_880 my_X6_undo ⟨rfl, rfl⟩ ⟨by decide, by decide⟩ ⟨by decide, by decide⟩ rfl hl.1 rfl (Nat.le_of_ble_eq_true rfl) dL_law_1552 (fun H locs G => ?_)
  refine lv_aload_n hx hb dL_law_1555 rfl (lv_at hl 1 rfl) ?_
  refine lcM (As := []) X K (fun _ h => h) G (fun A' => c_X7_undo h2) q_1366 my_X7_undo ⟨rfl, rfl⟩ ⟨by decide, by decide⟩ ⟨by decide, by decide⟩ rfl hl.1 rfl (Nat.le_of_ble_eq_true rfl) dL_law_1556 (fun H locs G => ?_)
  exact lv_icmp_eq (tgt := 1623) hx hb dL_law_1559 (by decide) (fun _ => kk _ _ _ _ h3 G) (fun q => absurd rfl q)
theorem law_tear : lK 1564 := by
  intro p l e s m below meth c b L xs hL C0 D cI cZ cQ adK adV adx adm K σ τ h H locs G i hi ls hl Q kk
  have X := at_cx C0
  have hx := X.1
  have hb := X.2.1
  have hX := C0.2.2.2.2.2.2.1
  have hbl : b < s.heap.size := C0.2.2.2.2.2.2.2.1
  have hbA : ¬ s.heap.size ≤ b := Nat.not_le.mpr hbl
  obtain ⟨r, σ', τ', h1, h2, h3⟩ := op_tear h 
  refine lv_aload_n hx hb dL_law_1564 rfl (lv_at hl 2 rfl) ?_
  refine lcX (As := []) X K (fun _ h => h) G (fun A' => c_X6_tear h1) q_884 my_X6_tear ⟨rfl, rfl⟩ ⟨by decide, by decide⟩ ⟨by decide, by decide⟩ rfl hl.1 rfl (Nat.le_of_ble_eq_true rfl) dL_law_1565 (fun H locs G => ?_)
  refine lv_aload_n hx hb dL_law_1568 rfl (lv_at hl 1 rfl) ?_
  refine lcM (As := []) X K (fun _ h => h) G (fun A' => c_X7_tear h2) q_1370 my_X7_tear ⟨rfl, rfl⟩ ⟨by decide, by decide⟩ ⟨by decide, by decide⟩ rfl hl.1 rfl (Nat.le_of_ble_eq_true rfl) dL_law_1569 (fun H locs G => ?_)
  exact lv_icmp_eq (tgt := 1623) hx hb dL_law_1572 (by decide) (fun _ => kk _ _ _ _ h3 G) (fun q => absurd rfl q)
theorem law_count : lK 1577 := by
  intro p l e s m below meth c b L xs hL C0 D cI cZ cQ adK adV adx adm K σ τ h H locs G i hi ls hl Q kk
  have X := at_cx C0
  have hx := X.1
  have hb := X.2.1
  have hX := C0.2.2.2.2.2.2.1
  have hbl : b < s.heap.size := C0.2.2.2.2.2.2.2.1
  have hbA : ¬ s.heap.size ≤ b := Nat.not_le.mpr hbl
  obtain ⟨r, σ', τ', h1, h2, h3⟩ := op_count h (xs (i + 1).toNatClampNeg)
  refine lv_aload_n hx hb dL_law_1577 rfl (lv_at hl 2 rfl) ?_
  refine lv_aload_n hx hb dL_law_1578 rfl (lv_at hl 3 rfl) ?_
  refine lv_iload_n hx hb dL_law_1579 rfl (lv_at hl 0 rfl) ?_
  refine lv_iconst (v := 1) hx hb dL_law_1580 (by decide) ?_
  refine lv_iadd hx hb dL_law_1581 ?_
  refine va_sld hx hb hX hbl hbA G.2.2 (lw_in hL hi 1 (by decide)) dL_law_1582 ?_
  refine lcX (As := [.int (xs (i + 1).toNatClampNeg)]) X K (fun _ h => h) G (fun A' => c_X6_count h1) q_888 my_X6_count ⟨rfl, rfl⟩ ⟨by decide, by decide⟩ ⟨by decide, by decide⟩ rfl hl.1 rfl (Nat.le_of_ble_eq_true rfl) dL_law_1583 (fun H locs G => ?_)
  refine lv_aload_n hx hb dL_law_1586 rfl (lv_at hl 1 rfl) ?_
  refine lv_aload_n hx hb dL_law_1587 rfl (lv_at hl 3 rfl) ?_
  refine lv_iload_n hx hb dL_law_1588 rfl (lv_at hl 0 rfl) ?_
  refine lv_iconst (v := 1) hx hb dL_law_1589 (by decide) ?_
  refine lv_iadd hx hb dL_law_1590 ?_
  refine va_sld hx hb hX hbl hbA G.2.2 (lw_in hL hi 1 (by decide)) dL_law_1591 ?_
  refine lcM (As := [.int (xs (i + 1).toNatClampNeg)]) X K (fun _ h => h) G (fun A' => c_X7_count h2) q_1374 my_X7_count ⟨rfl, rfl⟩ ⟨by decide, by decide⟩ ⟨by decide, by decide⟩ rfl hl.1 rfl (Nat.le_of_ble_eq_true rfl) dL_law_1592 (fun H locs G => ?_)
  exact lv_icmp_eq (tgt := 1623) hx hb dL_law_1595 (by decide) (fun _ => kk _ _ _ _ h3 G) (fun q => absurd rfl q)
theorem law_status : lK 1600 := by
  intro p l e s m below meth c b L xs hL C0 D cI cZ cQ adK adV adx adm K σ τ h H locs G i hi ls hl Q kk
  have X := at_cx C0
  have hx := X.1
  have hb := X.2.1
  have hX := C0.2.2.2.2.2.2.1
  have hbl : b < s.heap.size := C0.2.2.2.2.2.2.2.1
  have hbA : ¬ s.heap.size ≤ b := Nat.not_le.mpr hbl
  obtain ⟨r, σ', τ', h1, h2, h3⟩ := op_status h (xs (i + 1).toNatClampNeg)
  refine lv_aload_n hx hb dL_law_1600 rfl (lv_at hl 2 rfl) ?_
  refine lv_aload_n hx hb dL_law_1601 rfl (lv_at hl 3 rfl) ?_
  refine lv_iload_n hx hb dL_law_1602 rfl (lv_at hl 0 rfl) ?_
  refine lv_iconst (v := 1) hx hb dL_law_1603 (by decide) ?_
  refine lv_iadd hx hb dL_law_1604 ?_
  refine va_sld hx hb hX hbl hbA G.2.2 (lw_in hL hi 1 (by decide)) dL_law_1605 ?_
  refine lcX (As := [.int (xs (i + 1).toNatClampNeg)]) X K (fun _ h => h) G (fun A' => c_X6_status h1) q_896 my_X6_status ⟨rfl, rfl⟩ ⟨by decide, by decide⟩ ⟨by decide, by decide⟩ rfl hl.1 rfl (Nat.le_of_ble_eq_true rfl) dL_law_1606 (fun H locs G => ?_)
  refine lv_aload_n hx hb dL_law_1609 rfl (lv_at hl 1 rfl) ?_
  refine lv_aload_n hx hb dL_law_1610 rfl (lv_at hl 3 rfl) ?_
  refine lv_iload_n hx hb dL_law_1611 rfl (lv_at hl 0 rfl) ?_
  refine lv_iconst (v := 1) hx hb dL_law_1612 (by decide) ?_
  refine lv_iadd hx hb dL_law_1613 ?_
  refine va_sld hx hb hX hbl hbA G.2.2 (lw_in hL hi 1 (by decide)) dL_law_1614 ?_
  refine lcM (As := [.int (xs (i + 1).toNatClampNeg)]) X K (fun _ h => h) G (fun A' => c_X7_status h2) q_1378 my_X7_status ⟨rfl, rfl⟩ ⟨by decide, by decide⟩ ⟨by decide, by decide⟩ rfl hl.1 rfl (Nat.le_of_ble_eq_true rfl) dL_law_1615 (fun H locs G => ?_)
  exact lv_icmp_eq (tgt := 1623) hx hb dL_law_1618 (by decide) (fun _ => kk _ _ _ _ h3 G) (fun q => absurd rfl q)
