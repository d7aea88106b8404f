/-! THE LAW: a case of its switch each -/
theorem lc_row {X : Xx} {o : Nat} {cL : ClassId} {b L : Nat} {xs1 : Nat → Int32} {Q : State → Prop} {kc ks : Nat} {s : St} {A : Ab} {f : Nat → Int64} {j : Nat} (K : Lok X o cL b L xs1) (hj : 6 * j + 6 ≤ L) (hk : kc + 1 ≤ 601024 ∧ ks + 6 ≤ 7293034) (hR : RR s A) (next : ∀ (s2 : St) (A2 : Ab) (f2 : Nat → Int64), RR s2 A2 → LV X o cL Q (kc + 1) (ks + 6) s2 f2 1600 (lwL X o b j) []) : LV X o cL Q kc ks s f 1312 (lwL X o b j) [] := by
  refine l_aload_n K d_law_1312 rfl ?_
  refine l_arg K (j := j) (k := 1) (by omega) rfl rfl d_law_1313 d_law_1314 d_law_1316 d_law_1317 d_law_1318 ?_
  refine l_arg K (j := j) (k := 2) (by omega) rfl rfl d_law_1319 d_law_1320 d_law_1322 d_law_1323 d_law_1324 ?_
  refine l_arg K (j := j) (k := 3) (by omega) rfl rfl d_law_1325 d_law_1326 d_law_1328 d_law_1329 d_law_1330 ?_
  refine l_call (As := [.int (xs1 (6 * j + 1)), .int (xs1 (6 * j + 2)), .int (xs1 (6 * j + 3))]) (rest := []) (p := 0) K (m_Brt_row (xg X) K.1.2.2.2.2.2.2.1 (xs1 (6 * j + 1)) (xs1 (6 * j + 2)) (xs1 (6 * j + 3)) s _ (e_row hR _ _ _)) cw_Brt_row ml_Law_167 rfl (by decide) (by decide) rfl rfl rfl ⟨rfl, rfl, Nat.le_of_ble_eq_true rfl, Nat.le_of_ble_eq_true rfl⟩ ⟨by omega, by omega⟩ rfl (Nat.le_of_ble_eq_true rfl) d_law_1331 ?_
  rintro _ s1 ⟨r, rfl, hw⟩
  show LV X o cL Q kc ks s1 f 1334 (lwL X o b j) [.int r]
  refine l_aload_n K d_law_1334 rfl ?_
  refine l_arg K (j := j) (k := 1) (by omega) rfl rfl d_law_1335 d_law_1336 d_law_1338 d_law_1339 d_law_1340 ?_
  refine l_arg K (j := j) (k := 2) (by omega) rfl rfl d_law_1341 d_law_1342 d_law_1344 d_law_1345 d_law_1346 ?_
  refine l_arg K (j := j) (k := 3) (by omega) rfl rfl d_law_1347 d_law_1348 d_law_1350 d_law_1351 d_law_1352 ?_
  refine l_call (As := [.int (xs1 (6 * j + 1)), .int (xs1 (6 * j + 2)), .int (xs1 (6 * j + 3))]) (rest := [.int r]) (p := 82) K (m_Mod_row (xg X) K.1.2.2.2.2.2.2.1 (xs1 (6 * j + 1)) (xs1 (6 * j + 2)) (xs1 (6 * j + 3)) s1 _ hw) cw_Mod_row ml_Law_170 rfl (by decide) (by decide) rfl rfl rfl ⟨rfl, rfl, Nat.le_of_ble_eq_true rfl, Nat.le_of_ble_eq_true rfl⟩ ⟨by omega, by omega⟩ rfl (Nat.le_of_ble_eq_true rfl) d_law_1353 ?_
  rintro _ s2 ⟨r', rfl, hw⟩
  show LV X o cL Q kc ks s2 f 1356 (lwL X o b j) [.int r', .int r]
  obtain ⟨rfl, A', hR'⟩ := hw
  exact l_icmp_eq (tgt := 1600) K d_law_1356 (by decide) (fun _ => l_widen (Nat.le_succ _) (Nat.le_add_right _ _) (next _ _ f hR')) (fun c => absurd rfl c)
theorem lc_put {X : Xx} {o : Nat} {cL : ClassId} {b L : Nat} {xs1 : Nat → Int32} {Q : State → Prop} {kc ks : Nat} {s : St} {A : Ab} {f : Nat → Int64} {j : Nat} (K : Lok X o cL b L xs1) (hj : 6 * j + 6 ≤ L) (hk : kc + 1 ≤ 601024 ∧ ks + 6 ≤ 7293034) (hR : RR s A) (next : ∀ (s2 : St) (A2 : Ab) (f2 : Nat → Int64), RR s2 A2 → LV X o cL Q (kc + 1) (ks + 6) s2 f2 1600 (lwL X o b j) []) : LV X o cL Q kc ks s f 1361 (lwL X o b j) [] := by
  refine l_aload_n K d_law_1361 rfl ?_
  refine l_arg K (j := j) (k := 1) (by omega) rfl rfl d_law_1362 d_law_1363 d_law_1365 d_law_1366 d_law_1367 ?_
  refine l_arg K (j := j) (k := 2) (by omega) rfl rfl d_law_1368 d_law_1369 d_law_1371 d_law_1372 d_law_1373 ?_
  refine l_arg K (j := j) (k := 3) (by omega) rfl rfl d_law_1374 d_law_1375 d_law_1377 d_law_1378 d_law_1379 ?_
  refine l_call (As := [.int (xs1 (6 * j + 1)), .int (xs1 (6 * j + 2)), .int (xs1 (6 * j + 3))]) (rest := []) (p := 0) K (m_Brt_put (xg X) K.1.2.2.2.2.2.2.1 (xs1 (6 * j + 1)) (xs1 (6 * j + 2)) (xs1 (6 * j + 3)) s _ (e_put hR _ _ _)) cw_Brt_put ml_Law_171 rfl (by decide) (by decide) rfl rfl rfl ⟨rfl, rfl, Nat.le_of_ble_eq_true rfl, Nat.le_of_ble_eq_true rfl⟩ ⟨by omega, by omega⟩ rfl (Nat.le_of_ble_eq_true rfl) d_law_1380 ?_
  rintro _ s1 ⟨r, rfl, hw⟩
  show LV X o cL Q kc ks s1 f 1383 (lwL X o b j) [.int r]
  refine l_aload_n K d_law_1383 rfl ?_
  refine l_arg K (j := j) (k := 1) (by omega) rfl rfl d_law_1384 d_law_1385 d_law_1387 d_law_1388 d_law_1389 ?_
  refine l_arg K (j := j) (k := 2) (by omega) rfl rfl d_law_1390 d_law_1391 d_law_1393 d_law_1394 d_law_1395 ?_
  refine l_arg K (j := j) (k := 3) (by omega) rfl rfl d_law_1396 d_law_1397 d_law_1399 d_law_1400 d_law_1401 ?_
  refine l_call (As := [.int (xs1 (6 * j + 1)), .int (xs1 (6 * j + 2)), .int (xs1 (6 * j + 3))]) (rest := [.int r]) (p := 82) K (m_Mod_put (xg X) K.1.2.2.2.2.2.2.1 (xs1 (6 * j + 1)) (xs1 (6 * j + 2)) (xs1 (6 * j + 3)) s1 _ hw) cw_Mod_put ml_Law_174 rfl (by decide) (by decide) rfl rfl rfl ⟨rfl, rfl, Nat.le_of_ble_eq_true rfl, Nat.le_of_ble_eq_true rfl⟩ ⟨by omega, by omega⟩ rfl (Nat.le_of_ble_eq_true rfl) d_law_1402 ?_
  rintro _ s2 ⟨r', rfl, hw⟩
  show LV X o cL Q kc ks s2 f 1405 (lwL X o b j) [.int r', .int r]
  obtain ⟨rfl, A', hR'⟩ := hw
  exact l_icmp_eq (tgt := 1600) K d_law_1405 (by decide) (fun _ => l_widen (Nat.le_succ _) (Nat.le_add_right _ _) (next _ _ f hR')) (fun c => absurd rfl c)
theorem lc_copy {X : Xx} {o : Nat} {cL : ClassId} {b L : Nat} {xs1 : Nat → Int32} {Q : State → Prop} {kc ks : Nat} {s : St} {A : Ab} {f : Nat → Int64} {j : Nat} (K : Lok X o cL b L xs1) (hj : 6 * j + 6 ≤ L) (hk : kc + 1 ≤ 601024 ∧ ks + 6 ≤ 7293034) (hR : RR s A) (next : ∀ (s2 : St) (A2 : Ab) (f2 : Nat → Int64), RR s2 A2 → LV X o cL Q (kc + 1) (ks + 6) s2 f2 1600 (lwL X o b j) []) : LV X o cL Q kc ks s f 1477 (lwL X o b j) [] := by
  refine l_aload_n K d_law_1477 rfl ?_
  refine l_arg K (j := j) (k := 1) (by omega) rfl rfl d_law_1478 d_law_1479 d_law_1481 d_law_1482 d_law_1483 ?_
  refine l_arg K (j := j) (k := 2) (by omega) rfl rfl d_law_1484 d_law_1485 d_law_1487 d_law_1488 d_law_1489 ?_
  refine l_arg K (j := j) (k := 3) (by omega) rfl rfl d_law_1490 d_law_1491 d_law_1493 d_law_1494 d_law_1495 ?_
  refine l_arg K (j := j) (k := 4) (by omega) rfl rfl d_law_1496 d_law_1497 d_law_1499 d_law_1500 d_law_1501 ?_
  refine l_arg K (j := j) (k := 5) (by omega) rfl rfl d_law_1502 d_law_1503 d_law_1505 d_law_1506 d_law_1507 ?_
  refine l_call (As := [.int (xs1 (6 * j + 1)), .int (xs1 (6 * j + 2)), .int (xs1 (6 * j + 3)), .int (xs1 (6 * j + 4)), .int (xs1 (6 * j + 5))]) (rest := []) (p := 0) K (m_Brt_copy (xg X) K.1.2.2.2.2.2.2.1 (xs1 (6 * j + 1)) (xs1 (6 * j + 2)) (xs1 (6 * j + 3)) (xs1 (6 * j + 4)) (xs1 (6 * j + 5)) s _ (e_copy hR _ _ _ _ _)) cw_Brt_copy ml_Law_184 rfl (by decide) (by decide) rfl rfl rfl ⟨rfl, rfl, Nat.le_of_ble_eq_true rfl, Nat.le_of_ble_eq_true rfl⟩ ⟨by omega, by omega⟩ rfl (Nat.le_of_ble_eq_true rfl) d_law_1508 ?_
  rintro _ s1 ⟨r, rfl, hw⟩
  show LV X o cL Q kc ks s1 f 1511 (lwL X o b j) [.int r]
  refine l_aload_n K d_law_1511 rfl ?_
  refine l_arg K (j := j) (k := 1) (by omega) rfl rfl d_law_1512 d_law_1513 d_law_1515 d_law_1516 d_law_1517 ?_
  refine l_arg K (j := j) (k := 2) (by omega) rfl rfl d_law_1518 d_law_1519 d_law_1521 d_law_1522 d_law_1523 ?_
  refine l_arg K (j := j) (k := 3) (by omega) rfl rfl d_law_1524 d_law_1525 d_law_1527 d_law_1528 d_law_1529 ?_
  refine l_arg K (j := j) (k := 4) (by omega) rfl rfl d_law_1530 d_law_1531 d_law_1533 d_law_1534 d_law_1535 ?_
  refine l_arg K (j := j) (k := 5) (by omega) rfl rfl d_law_1536 d_law_1537 d_law_1539 d_law_1540 d_law_1541 ?_
  refine l_call (As := [.int (xs1 (6 * j + 1)), .int (xs1 (6 * j + 2)), .int (xs1 (6 * j + 3)), .int (xs1 (6 * j + 4)), .int (xs1 (6 * j + 5))]) (rest := [.int r]) (p := 82) K (m_Mod_copy (xg X) K.1.2.2.2.2.2.2.1 (xs1 (6 * j + 1)) (xs1 (6 * j + 2)) (xs1 (6 * j + 3)) (xs1 (6 * j + 4)) (xs1 (6 * j + 5)) s1 _ hw) cw_Mod_copy ml_Law_188 rfl (by decide) (by decide) rfl rfl rfl ⟨rfl, rfl, Nat.le_of_ble_eq_true rfl, Nat.le_of_ble_eq_true rfl⟩ ⟨by omega, by omega⟩ rfl (Nat.le_of_ble_eq_true rfl) d_law_1542 ?_
  rintro _ s2 ⟨r', rfl, hw⟩
  show LV X o cL Q kc ks s2 f 1545 (lwL X o b j) [.int r', .int r]
  obtain ⟨rfl, A', hR'⟩ := hw
  exact l_icmp_eq (tgt := 1600) K d_law_1545 (by decide) (fun _ => l_widen (Nat.le_succ _) (Nat.le_add_right _ _) (next _ _ f hR')) (fun c => absurd rfl c)
theorem lc_cost {X : Xx} {o : Nat} {cL : ClassId} {b L : Nat} {xs1 : Nat → Int32} {Q : State → Prop} {kc ks : Nat} {s : St} {A : Ab} {f : Nat → Int64} {j : Nat} (K : Lok X o cL b L xs1) (hj : 6 * j + 6 ≤ L) (hk : kc + 1 ≤ 601024 ∧ ks + 6 ≤ 7293034) (hR : RR s A) (next : ∀ (s2 : St) (A2 : Ab) (f2 : Nat → Int64), RR s2 A2 → LV X o cL Q (kc + 1) (ks + 6) s2 f2 1600 (lwL X o b j) []) : LV X o cL Q kc ks s f 1550 (lwL X o b j) [] := by
  refine l_aload_n K d_law_1550 rfl ?_
  refine l_arg K (j := j) (k := 1) (by omega) rfl rfl d_law_1551 d_law_1552 d_law_1554 d_law_1555 d_law_1556 ?_
  refine l_call (As := [.int (xs1 (6 * j + 1))]) (rest := []) (p := 0) K (m_Brt_cost (xg X) K.1.2.2.2.2.2.2.1 (xs1 (6 * j + 1)) s _ (e_cost hR _)) cw_Brt_cost ml_Law_189 rfl (by decide) (by decide) rfl rfl rfl ⟨rfl, rfl, Nat.le_of_ble_eq_true rfl, Nat.le_of_ble_eq_true rfl⟩ ⟨by omega, by omega⟩ rfl (Nat.le_of_ble_eq_true rfl) d_law_1557 ?_
  rintro _ _ ⟨r, rfl, rfl, hw⟩
  show LV X o cL Q kc ks s f 1560 (lwL X o b j) [.int r]
  refine l_aload_n K d_law_1560 rfl ?_
  refine l_arg K (j := j) (k := 1) (by omega) rfl rfl d_law_1561 d_law_1562 d_law_1564 d_law_1565 d_law_1566 ?_
  refine l_call (As := [.int (xs1 (6 * j + 1))]) (rest := [.int r]) (p := 82) K (m_Mod_cost (xg X) K.1.2.2.2.2.2.2.1 (xs1 (6 * j + 1)) s _ hw) cw_Mod_cost ml_Law_192 rfl (by decide) (by decide) rfl rfl rfl ⟨rfl, rfl, Nat.le_of_ble_eq_true rfl, Nat.le_of_ble_eq_true rfl⟩ ⟨by omega, by omega⟩ rfl (Nat.le_of_ble_eq_true rfl) d_law_1567 ?_
  rintro _ _ ⟨r', rfl, rfl, hw⟩
  show LV X o cL Q kc ks s f 1570 (lwL X o b j) [.int r', .int r]
  obtain rfl := hw
  have hR' := hR
  exact l_icmp_eq (tgt := 1600) K d_law_1570 (by decide) (fun _ => l_widen (Nat.le_succ _) (Nat.le_add_right _ _) (next _ _ f hR')) (fun c => absurd rfl c)
theorem lc_toss {X : Xx} {o : Nat} {cL : ClassId} {b L : Nat} {xs1 : Nat → Int32} {Q : State → Prop} {kc ks : Nat} {s : St} {A : Ab} {f : Nat → Int64} {j : Nat} (K : Lok X o cL b L xs1) (hj : 6 * j + 6 ≤ L) (hk : kc + 1 ≤ 601024 ∧ ks + 6 ≤ 7293034) (hR : RR s A) (next : ∀ (s2 : St) (A2 : Ab) (f2 : Nat → Int64), RR s2 A2 → LV X o cL Q (kc + 1) (ks + 6) s2 f2 1600 (lwL X o b j) []) : LV X o cL Q kc ks s f 1575 (lwL X o b j) [] := by
  refine l_aload_n K d_law_1575 rfl ?_
  refine l_arg K (j := j) (k := 1) (by omega) rfl rfl d_law_1576 d_law_1577 d_law_1579 d_law_1580 d_law_1581 ?_
  refine l_callW (As := [.int (xs1 (6 * j + 1))]) (rest := []) (p := 0) K (m_Brt_toss (xg X) K.1.2.2.2.2.2.2.1 K.2.2.2.1 (xs1 (6 * j + 1)) s _ (e_toss hR _)) cw_Brt_toss ml_Law_193 rfl (by decide) (by decide) rfl rfl rfl ⟨rfl, rfl, Nat.le_of_ble_eq_true rfl, Nat.le_of_ble_eq_true rfl⟩ hk rfl (Nat.le_of_ble_eq_true rfl) d_law_1582 ?_
  rintro _ _ ⟨r, rfl, rfl, hw⟩
  show LV X o cL Q (kc + 1) (ks + 6) s f 1585 (lwL X o b j) [.int r]
  refine l_aload_n K d_law_1585 rfl ?_
  refine l_arg K (j := j) (k := 1) (by omega) rfl rfl d_law_1586 d_law_1587 d_law_1589 d_law_1590 d_law_1591 ?_
  refine l_call (As := [.int (xs1 (6 * j + 1))]) (rest := [.int r]) (p := 82) K (m_Mod_toss (xg X) K.1.2.2.2.2.2.2.1 (xs1 (6 * j + 1)) s _ hw) cw_Mod_toss ml_Law_196 rfl (by decide) (by decide) rfl rfl rfl ⟨rfl, rfl, Nat.le_of_ble_eq_true rfl, Nat.le_of_ble_eq_true rfl⟩ ⟨by omega, by omega⟩ rfl (Nat.le_of_ble_eq_true rfl) d_law_1592 ?_
  rintro _ _ ⟨r', rfl, rfl, hw⟩
  show LV X o cL Q (kc + 1) (ks + 6) s f 1595 (lwL X o b j) [.int r', .int r]
  obtain rfl := hw
  have hR' := hR
  exact l_icmp_eq (tgt := 1600) K d_law_1595 (by decide) (fun _ => next _ _ f hR') (fun c => absurd rfl c)
