set_option maxHeartbeats 4000000 in
set_option maxRecDepth 100000 in
theorem K_safe {G : GX} {X : En} {l : Launch} {nc ns : Nat} (hRc : nc ≤ 600000 ∧ ns ≤ 7302250) {b L : Nat} {xs : Nat → Int32} (lg : LG G X b L xs) {i : Int32} (h1 : vp_in (i + 1) L) (h2 : vp_in (i + 2) L) (h3 : vp_in (i + 3) L) (h4 : vp_in (i + 4) L) {h : Hp} (hI : Inv h) (kk : ∀ h', Inv h' → Ag G X l mL_law nc ns 1755 (lwL i) [] h') : Ag G X l mL_law nc ns 1405 (lwL i) [] h := by
  obtain ⟨x, g, r, xi, np, kp, V, t12, n12, k12, t15, n15, im, T, z, W, x13, y14, y16, t17, n17, y18, y20, y22, y23, x24, s25, t25, y26, x27, ⟨O0, O1, O2, O3, hV, O12, O13, O14, O15, O16, O17, O18, O19, O20, O21, O22, O23, O24, O25, O26, O27, O28⟩, ok⟩ := hI
  obtain ⟨a1, a2, a3, a4, a5, a6, a7, a8, a9, a10, a11⟩ := id ok
  refine G_aload_n 1406 dL_law_1405 rfl rfl rfl ?_
  refine G_aload_n 1407 dL_law_1406 rfl rfl rfl ?_
  refine G_iload_n 1408 dL_law_1407 rfl rfl rfl ?_
  refine G_iconst 1409 1 dL_law_1408 rfl (by decide) ?_
  refine G_iadd 1410 dL_law_1409 rfl ?_
  refine G_sld 1411 lg.1 lg.2.1 lg.2.2.1 lg.2.2.2 dL_law_1410 rfl h1 ?_
  refine G_callVI 1414 (S_X9_safe X l O0 O1 a1 O21 O22 O23 (p := (xs (i + 1).toNatClampNeg))) dL_law_1411 rfl kX9_safe lk_L_175 rfl O0 (by decide) hRc rfl (Nat.le_of_ble_eq_true rfl) (fun v_1 h_1 q_1 => ?_)
  obtain ⟨ev1, z22_1, z23_1, n1_0, n1_1, n1_2, e1⟩ := q_1
  replace O0 := n1_0
  replace O1 := (e1 _ (by decide) (by decide) (by decide)).trans O1
  replace O2 := (e1 _ (by decide) (by decide) (by decide)).trans O2
  replace O3 := (e1 _ (by decide) (by decide) (by decide)).trans O3
  replace O12 := (e1 _ (by decide) (by decide) (by decide)).trans O12
  replace O13 := (e1 _ (by decide) (by decide) (by decide)).trans O13
  replace O14 := (e1 _ (by decide) (by decide) (by decide)).trans O14
  replace O15 := (e1 _ (by decide) (by decide) (by decide)).trans O15
  replace O16 := (e1 _ (by decide) (by decide) (by decide)).trans O16
  replace O17 := (e1 _ (by decide) (by decide) (by decide)).trans O17
  replace O18 := (e1 _ (by decide) (by decide) (by decide)).trans O18
  replace O19 := (e1 _ (by decide) (by decide) (by decide)).trans O19
  replace O20 := (e1 _ (by decide) (by decide) (by decide)).trans O20
  replace O21 := (e1 _ (by decide) (by decide) (by decide)).trans O21
  replace O22 := n1_1
  replace O23 := n1_2
  replace O24 := (e1 _ (by decide) (by decide) (by decide)).trans O24
  replace O25 := (e1 _ (by decide) (by decide) (by decide)).trans O25
  replace O26 := (e1 _ (by decide) (by decide) (by decide)).trans O26
  replace O27 := (e1 _ (by decide) (by decide) (by decide)).trans O27
  replace O28 := (e1 _ (by decide) (by decide) (by decide)).trans O28
  replace hV : ∀ j, j < 8 → h_1 (j + 4) = some (wB (j + 4) (_ )) := fun j hj => (e1 _ (by omega) (by omega) (by omega)).trans (hV j hj)
  refine G_aload_n 1415 dL_law_1414 rfl rfl rfl ?_
  refine G_aload_n 1416 dL_law_1415 rfl rfl rfl ?_
  refine G_iload_n 1417 dL_law_1416 rfl rfl rfl ?_
  refine G_iconst 1418 1 dL_law_1417 rfl (by decide) ?_
  refine G_iadd 1419 dL_law_1418 rfl ?_
  refine G_sld 1420 lg.1 lg.2.1 lg.2.2.1 lg.2.2.2 dL_law_1419 rfl h1 ?_
  refine G_callVI 1423 (S_X10_safe X l O28 a1 (p := (xs (i + 1).toNatClampNeg))) dL_law_1420 rfl kX10_safe lk_L_178 rfl O28 (by decide) hRc rfl (Nat.le_of_ble_eq_true rfl) (fun v_2 h_2 q_2 => ?_)
  obtain ⟨ev2, z1_2, n2_0, e2⟩ := q_2
  replace O0 := (e2 _ (by decide)).trans O0
  replace O1 := (e2 _ (by decide)).trans O1
  replace O2 := (e2 _ (by decide)).trans O2
  replace O3 := (e2 _ (by decide)).trans O3
  replace O12 := (e2 _ (by decide)).trans O12
  replace O13 := (e2 _ (by decide)).trans O13
  replace O14 := (e2 _ (by decide)).trans O14
  replace O15 := (e2 _ (by decide)).trans O15
  replace O16 := (e2 _ (by decide)).trans O16
  replace O17 := (e2 _ (by decide)).trans O17
  replace O18 := (e2 _ (by decide)).trans O18
  replace O19 := (e2 _ (by decide)).trans O19
  replace O20 := (e2 _ (by decide)).trans O20
  replace O21 := (e2 _ (by decide)).trans O21
  replace O22 := (e2 _ (by decide)).trans O22
  replace O23 := (e2 _ (by decide)).trans O23
  replace O24 := (e2 _ (by decide)).trans O24
  replace O25 := (e2 _ (by decide)).trans O25
  replace O26 := (e2 _ (by decide)).trans O26
  replace O27 := (e2 _ (by decide)).trans O27
  replace O28 := n2_0
  replace hV : ∀ j, j < 8 → h_2 (j + 4) = some (wB (j + 4) (_ )) := fun j hj => (e2 _ (by omega)).trans (hV j hj)
  obtain rfl : v_1 = v_2 := ev1.symm.trans ev2
  refine G_icmp_eq 1755 1426 dL_law_1423 (by decide) rfl (fun _ => ?_) (fun z => absurd rfl z)
  exact kk _ ⟨_, _, _, _, _, _, _, _, _, _, _, _, _, _, _, _, _, _, _, _, _, _, _, _, _, _, _, _, _, _, ⟨O0, O1, O2, O3, hV, O12, O13, O14, O15, O16, O17, O18, O19, O20, O21, O22, O23, O24, O25, O26, O27, O28⟩, ok⟩
set_option maxHeartbeats 4000000 in
set_option maxRecDepth 100000 in
theorem K_adds {G : GX} {X : En} {l : Launch} {nc ns : Nat} (hRc : nc ≤ 600000 ∧ ns ≤ 7302250) {b L : Nat} {xs : Nat → Int32} (lg : LG G X b L xs) {i : Int32} (h1 : vp_in (i + 1) L) (h2 : vp_in (i + 2) L) (h3 : vp_in (i + 3) L) (h4 : vp_in (i + 4) L) {h : Hp} (hI : Inv h) (kk : ∀ h', Inv h' → Ag G X l mL_law nc ns 1755 (lwL i) [] h') : Ag G X l mL_law nc ns 1428 (lwL i) [] h := by
  obtain ⟨x, g, r, xi, np, kp, V, t12, n12, k12, t15, n15, im, T, z, W, x13, y14, y16, t17, n17, y18, y20, y22, y23, x24, s25, t25, y26, x27, ⟨O0, O1, O2, O3, hV, O12, O13, O14, O15, O16, O17, O18, O19, O20, O21, O22, O23, O24, O25, O26, O27, O28⟩, ok⟩ := hI
  obtain ⟨a1, a2, a3, a4, a5, a6, a7, a8, a9, a10, a11⟩ := id ok
  refine G_aload_n 1429 dL_law_1428 rfl rfl rfl ?_
  refine G_aload_n 1430 dL_law_1429 rfl rfl rfl ?_
  refine G_iload_n 1431 dL_law_1430 rfl rfl rfl ?_
  refine G_iconst 1432 1 dL_law_1431 rfl (by decide) ?_
  refine G_iadd 1433 dL_law_1432 rfl ?_
  refine G_sld 1434 lg.1 lg.2.1 lg.2.2.1 lg.2.2.2 dL_law_1433 rfl h1 ?_
  refine G_aload_n 1435 dL_law_1434 rfl rfl rfl ?_
  refine G_iload_n 1436 dL_law_1435 rfl rfl rfl ?_
  refine G_iconst 1437 2 dL_law_1436 rfl (by decide) ?_
  refine G_iadd 1438 dL_law_1437 rfl ?_
  refine G_sld 1439 lg.1 lg.2.1 lg.2.2.1 lg.2.2.2 dL_law_1438 rfl h2 ?_
  refine G_aload_n 1440 dL_law_1439 rfl rfl rfl ?_
  refine G_iload_n 1441 dL_law_1440 rfl rfl rfl ?_
  refine G_iconst 1442 3 dL_law_1441 rfl (by decide) ?_
  refine G_iadd 1443 dL_law_1442 rfl ?_
  refine G_sld 1444 lg.1 lg.2.1 lg.2.2.1 lg.2.2.2 dL_law_1443 rfl h3 ?_
  refine G_callVL 1447 (S_X9_adds X l O0 O1 a1 O19 O20 (p := (xs (i + 1).toNatClampNeg)) (t := (xs (i + 2).toNatClampNeg)) (v := (xs (i + 3).toNatClampNeg))) dL_law_1444 rfl kX9_adds lk_L_179 rfl O0 (by decide) hRc rfl (Nat.le_of_ble_eq_true rfl) (fun v_1 h_1 q_1 => ?_)
  obtain ⟨ev1, z20_1, n1_0, n1_1, e1⟩ := q_1
  replace O0 := n1_0
  replace O1 := (e1 _ (by decide) (by decide)).trans O1
  replace O2 := (e1 _ (by decide) (by decide)).trans O2
  replace O3 := (e1 _ (by decide) (by decide)).trans O3
  replace O12 := (e1 _ (by decide) (by decide)).trans O12
  replace O13 := (e1 _ (by decide) (by decide)).trans O13
  replace O14 := (e1 _ (by decide) (by decide)).trans O14
  replace O15 := (e1 _ (by decide) (by decide)).trans O15
  replace O16 := (e1 _ (by decide) (by decide)).trans O16
  replace O17 := (e1 _ (by decide) (by decide)).trans O17
  replace O18 := (e1 _ (by decide) (by decide)).trans O18
  replace O19 := (e1 _ (by decide) (by decide)).trans O19
  replace O20 := n1_1
  replace O21 := (e1 _ (by decide) (by decide)).trans O21
  replace O22 := (e1 _ (by decide) (by decide)).trans O22
  replace O23 := (e1 _ (by decide) (by decide)).trans O23
  replace O24 := (e1 _ (by decide) (by decide)).trans O24
  replace O25 := (e1 _ (by decide) (by decide)).trans O25
  replace O26 := (e1 _ (by decide) (by decide)).trans O26
  replace O27 := (e1 _ (by decide) (by decide)).trans O27
  replace O28 := (e1 _ (by decide) (by decide)).trans O28
  replace hV : ∀ j, j < 8 → h_1 (j + 4) = some (wB (j + 4) (_ )) := fun j hj => (e1 _ (by omega) (by omega)).trans (hV j hj)
  refine G_aload_n 1448 dL_law_1447 rfl rfl rfl ?_
  refine G_aload_n 1449 dL_law_1448 rfl rfl rfl ?_
  refine G_iload_n 1450 dL_law_1449 rfl rfl rfl ?_
  refine G_iconst 1451 1 dL_law_1450 rfl (by decide) ?_
  refine G_iadd 1452 dL_law_1451 rfl ?_
  refine G_sld 1453 lg.1 lg.2.1 lg.2.2.1 lg.2.2.2 dL_law_1452 rfl h1 ?_
  refine G_aload_n 1454 dL_law_1453 rfl rfl rfl ?_
  refine G_iload_n 1455 dL_law_1454 rfl rfl rfl ?_
  refine G_iconst 1456 2 dL_law_1455 rfl (by decide) ?_
  refine G_iadd 1457 dL_law_1456 rfl ?_
  refine G_sld 1458 lg.1 lg.2.1 lg.2.2.1 lg.2.2.2 dL_law_1457 rfl h2 ?_
  refine G_aload_n 1459 dL_law_1458 rfl rfl rfl ?_
  refine G_iload_n 1460 dL_law_1459 rfl rfl rfl ?_
  refine G_iconst 1461 3 dL_law_1460 rfl (by decide) ?_
  refine G_iadd 1462 dL_law_1461 rfl ?_
  refine G_sld 1463 lg.1 lg.2.1 lg.2.2.1 lg.2.2.2 dL_law_1462 rfl h3 ?_
  refine G_callVL 1466 (S_X10_adds X l O28 a1 (p := (xs (i + 1).toNatClampNeg)) (t := (xs (i + 2).toNatClampNeg)) (v := (xs (i + 3).toNatClampNeg))) dL_law_1463 rfl kX10_adds lk_L_183 rfl O28 (by decide) hRc rfl (Nat.le_of_ble_eq_true rfl) (fun v_2 h_2 q_2 => ?_)
  obtain ⟨ev2, z1_2, n2_0, e2⟩ := q_2
  replace O0 := (e2 _ (by decide)).trans O0
  replace O1 := (e2 _ (by decide)).trans O1
  replace O2 := (e2 _ (by decide)).trans O2
  replace O3 := (e2 _ (by decide)).trans O3
  replace O12 := (e2 _ (by decide)).trans O12
  replace O13 := (e2 _ (by decide)).trans O13
  replace O14 := (e2 _ (by decide)).trans O14
  replace O15 := (e2 _ (by decide)).trans O15
  replace O16 := (e2 _ (by decide)).trans O16
  replace O17 := (e2 _ (by decide)).trans O17
  replace O18 := (e2 _ (by decide)).trans O18
  replace O19 := (e2 _ (by decide)).trans O19
  replace O20 := (e2 _ (by decide)).trans O20
  replace O21 := (e2 _ (by decide)).trans O21
  replace O22 := (e2 _ (by decide)).trans O22
  replace O23 := (e2 _ (by decide)).trans O23
  replace O24 := (e2 _ (by decide)).trans O24
  replace O25 := (e2 _ (by decide)).trans O25
  replace O26 := (e2 _ (by decide)).trans O26
  replace O27 := (e2 _ (by decide)).trans O27
  replace O28 := n2_0
  replace hV : ∀ j, j < 8 → h_2 (j + 4) = some (wB (j + 4) (_ )) := fun j hj => (e2 _ (by omega)).trans (hV j hj)
  obtain rfl : v_1 = v_2 := ev1.symm.trans ev2
  refine G_lcmp 1467 dL_law_1466 rfl ?_
  refine G_if_eq 1755 1470 dL_law_1467 (by decide) rfl (fun _ => ?_) (fun z => absurd (lg_same _) z)
  exact kk _ ⟨_, _, _, _, _, _, _, _, _, _, _, _, _, _, _, _, _, _, _, _, _, _, _, _, _, _, _, _, _, _, ⟨O0, O1, O2, O3, hV, O12, O13, O14, O15, O16, O17, O18, O19, O20, O21, O22, O23, O24, O25, O26, O27, O28⟩, ok⟩
set_option maxHeartbeats 4000000 in
set_option maxRecDepth 100000 in
theorem K_ways {G : GX} {X : En} {l : Launch} {nc ns : Nat} (hRc : nc ≤ 600000 ∧ ns ≤ 7302250) {b L : Nat} {xs : Nat → Int32} (lg : LG G X b L xs) {i : Int32} (h1 : vp_in (i + 1) L) (h2 : vp_in (i + 2) L) (h3 : vp_in (i + 3) L) (h4 : vp_in (i + 4) L) {h : Hp} (hI : Inv h) (kk : ∀ h', Inv h' → Ag G X l mL_law nc ns 1755 (lwL i) [] h') : Ag G X l mL_law nc ns 1472 (lwL i) [] h := by
  obtain ⟨x, g, r, xi, np, kp, V, t12, n12, k12, t15, n15, im, T, z, W, x13, y14, y16, t17, n17, y18, y20, y22, y23, x24, s25, t25, y26, x27, ⟨O0, O1, O2, O3, hV, O12, O13, O14, O15, O16, O17, O18, O19, O20, O21, O22, O23, O24, O25, O26, O27, O28⟩, ok⟩ := hI
  obtain ⟨a1, a2, a3, a4, a5, a6, a7, a8, a9, a10, a11⟩ := id ok
  refine G_aload_n 1473 dL_law_1472 rfl rfl rfl ?_
  refine G_aload_n 1474 dL_law_1473 rfl rfl rfl ?_
  refine G_iload_n 1475 dL_law_1474 rfl rfl rfl ?_
  refine G_iconst 1476 1 dL_law_1475 rfl (by decide) ?_
  refine G_iadd 1477 dL_law_1476 rfl ?_
  refine G_sld 1478 lg.1 lg.2.1 lg.2.2.1 lg.2.2.2 dL_law_1477 rfl h1 ?_
  refine G_aload_n 1479 dL_law_1478 rfl rfl rfl ?_
  refine G_iload_n 1480 dL_law_1479 rfl rfl rfl ?_
  refine G_iconst 1481 2 dL_law_1480 rfl (by decide) ?_
  refine G_iadd 1482 dL_law_1481 rfl ?_
  refine G_sld 1483 lg.1 lg.2.1 lg.2.2.1 lg.2.2.2 dL_law_1482 rfl h2 ?_
  refine G_callVI 1486 (S_X9_ways X l O0 O1 a1 O19 O20 (l0 := (xs (i + 1).toNatClampNeg)) (v := (xs (i + 2).toNatClampNeg))) dL_law_1483 rfl kX9_ways lk_L_184 rfl O0 (by decide) hRc rfl (Nat.le_of_ble_eq_true rfl) (fun v_1 h_1 q_1 => ?_)
  obtain ⟨ev1, z20_1, n1_0, n1_1, e1⟩ := q_1
  replace O0 := n1_0
  replace O1 := (e1 _ (by decide) (by decide)).trans O1
  replace O2 := (e1 _ (by decide) (by decide)).trans O2
  replace O3 := (e1 _ (by decide) (by decide)).trans O3
  replace O12 := (e1 _ (by decide) (by decide)).trans O12
  replace O13 := (e1 _ (by decide) (by decide)).trans O13
  replace O14 := (e1 _ (by decide) (by decide)).trans O14
  replace O15 := (e1 _ (by decide) (by decide)).trans O15
  replace O16 := (e1 _ (by decide) (by decide)).trans O16
  replace O17 := (e1 _ (by decide) (by decide)).trans O17
  replace O18 := (e1 _ (by decide) (by decide)).trans O18
  replace O19 := (e1 _ (by decide) (by decide)).trans O19
  replace O20 := n1_1
  replace O21 := (e1 _ (by decide) (by decide)).trans O21
  replace O22 := (e1 _ (by decide) (by decide)).trans O22
  replace O23 := (e1 _ (by decide) (by decide)).trans O23
  replace O24 := (e1 _ (by decide) (by decide)).trans O24
  replace O25 := (e1 _ (by decide) (by decide)).trans O25
  replace O26 := (e1 _ (by decide) (by decide)).trans O26
  replace O27 := (e1 _ (by decide) (by decide)).trans O27
  replace O28 := (e1 _ (by decide) (by decide)).trans O28
  replace hV : ∀ j, j < 8 → h_1 (j + 4) = some (wB (j + 4) (_ )) := fun j hj => (e1 _ (by omega) (by omega)).trans (hV j hj)
  refine G_aload_n 1487 dL_law_1486 rfl rfl rfl ?_
  refine G_aload_n 1488 dL_law_1487 rfl rfl rfl ?_
  refine G_iload_n 1489 dL_law_1488 rfl rfl rfl ?_
  refine G_iconst 1490 1 dL_law_1489 rfl (by decide) ?_
  refine G_iadd 1491 dL_law_1490 rfl ?_
  refine G_sld 1492 lg.1 lg.2.1 lg.2.2.1 lg.2.2.2 dL_law_1491 rfl h1 ?_
  refine G_aload_n 1493 dL_law_1492 rfl rfl rfl ?_
  refine G_iload_n 1494 dL_law_1493 rfl rfl rfl ?_
  refine G_iconst 1495 2 dL_law_1494 rfl (by decide) ?_
  refine G_iadd 1496 dL_law_1495 rfl ?_
  refine G_sld 1497 lg.1 lg.2.1 lg.2.2.1 lg.2.2.2 dL_law_1496 rfl h2 ?_
  refine G_callVI 1500 (S_X10_ways X l O28 a1 (l0 := (xs (i + 1).toNatClampNeg)) (v := (xs (i + 2).toNatClampNeg))) dL_law_1497 rfl kX10_ways lk_L_187 rfl O28 (by decide) hRc rfl (Nat.le_of_ble_eq_true rfl) (fun v_2 h_2 q_2 => ?_)
  obtain ⟨ev2, z1_2, n2_0, e2⟩ := q_2
  replace O0 := (e2 _ (by decide)).trans O0
  replace O1 := (e2 _ (by decide)).trans O1
  replace O2 := (e2 _ (by decide)).trans O2
  replace O3 := (e2 _ (by decide)).trans O3
  replace O12 := (e2 _ (by decide)).trans O12
  replace O13 := (e2 _ (by decide)).trans O13
  replace O14 := (e2 _ (by decide)).trans O14
  replace O15 := (e2 _ (by decide)).trans O15
  replace O16 := (e2 _ (by decide)).trans O16
  replace O17 := (e2 _ (by decide)).trans O17
  replace O18 := (e2 _ (by decide)).trans O18
  replace O19 := (e2 _ (by decide)).trans O19
  replace O20 := (e2 _ (by decide)).trans O20
  replace O21 := (e2 _ (by decide)).trans O21
  replace O22 := (e2 _ (by decide)).trans O22
  replace O23 := (e2 _ (by decide)).trans O23
  replace O24 := (e2 _ (by decide)).trans O24
  replace O25 := (e2 _ (by decide)).trans O25
  replace O26 := (e2 _ (by decide)).trans O26
  replace O27 := (e2 _ (by decide)).trans O27
  replace O28 := n2_0
  replace hV : ∀ j, j < 8 → h_2 (j + 4) = some (wB (j + 4) (_ )) := fun j hj => (e2 _ (by omega)).trans (hV j hj)
  obtain rfl : v_1 = v_2 := ev1.symm.trans ev2
  refine G_icmp_eq 1755 1503 dL_law_1500 (by decide) rfl (fun _ => ?_) (fun z => absurd rfl z)
  exact kk _ ⟨_, _, _, _, _, _, _, _, _, _, _, _, _, _, _, _, _, _, _, _, _, _, _, _, _, _, _, _, _, _, ⟨O0, O1, O2, O3, hV, O12, O13, O14, O15, O16, O17, O18, O19, O20, O21, O22, O23, O24, O25, O26, O27, O28⟩, ok⟩
set_option maxHeartbeats 4000000 in
set_option maxRecDepth 100000 in
theorem K_behind {G : GX} {X : En} {l : Launch} {nc ns : Nat} (hRc : nc ≤ 600000 ∧ ns ≤ 7302250) {b L : Nat} {xs : Nat → Int32} (lg : LG G X b L xs) {i : Int32} (h1 : vp_in (i + 1) L) (h2 : vp_in (i + 2) L) (h3 : vp_in (i + 3) L) (h4 : vp_in (i + 4) L) {h : Hp} (hI : Inv h) (kk : ∀ h', Inv h' → Ag G X l mL_law nc ns 1755 (lwL i) [] h') : Ag G X l mL_law nc ns 1505 (lwL i) [] h := by
  obtain ⟨x, g, r, xi, np, kp, V, t12, n12, k12, t15, n15, im, T, z, W, x13, y14, y16, t17, n17, y18, y20, y22, y23, x24, s25, t25, y26, x27, ⟨O0, O1, O2, O3, hV, O12, O13, O14, O15, O16, O17, O18, O19, O20, O21, O22, O23, O24, O25, O26, O27, O28⟩, ok⟩ := hI
  obtain ⟨a1, a2, a3, a4, a5, a6, a7, a8, a9, a10, a11⟩ := id ok
  refine G_aload_n 1506 dL_law_1505 rfl rfl rfl ?_
  refine G_aload_n 1507 dL_law_1506 rfl rfl rfl ?_
  refine G_iload_n 1508 dL_law_1507 rfl rfl rfl ?_
  refine G_iconst 1509 1 dL_law_1508 rfl (by decide) ?_
  refine G_iadd 1510 dL_law_1509 rfl ?_
  refine G_sld 1511 lg.1 lg.2.1 lg.2.2.1 lg.2.2.2 dL_law_1510 rfl h1 ?_
  refine G_aload_n 1512 dL_law_1511 rfl rfl rfl ?_
  refine G_iload_n 1513 dL_law_1512 rfl rfl rfl ?_
  refine G_iconst 1514 2 dL_law_1513 rfl (by decide) ?_
  refine G_iadd 1515 dL_law_1514 rfl ?_
  refine G_sld 1516 lg.1 lg.2.1 lg.2.2.1 lg.2.2.2 dL_law_1515 rfl h2 ?_
  refine G_callVI 1519 (S_X9_behind X l O0 O1 a1 O21 O22 (p := (xs (i + 1).toNatClampNeg)) (n := (xs (i + 2).toNatClampNeg))) dL_law_1516 rfl kX9_behind lk_L_188 rfl O0 (by decide) hRc rfl (Nat.le_of_ble_eq_true rfl) (fun v_1 h_1 q_1 => ?_)
  obtain ⟨ev1, z22_1, n1_0, n1_1, e1⟩ := q_1
  replace O0 := n1_0
  replace O1 := (e1 _ (by decide) (by decide)).trans O1
  replace O2 := (e1 _ (by decide) (by decide)).trans O2
  replace O3 := (e1 _ (by decide) (by decide)).trans O3
  replace O12 := (e1 _ (by decide) (by decide)).trans O12
  replace O13 := (e1 _ (by decide) (by decide)).trans O13
  replace O14 := (e1 _ (by decide) (by decide)).trans O14
  replace O15 := (e1 _ (by decide) (by decide)).trans O15
  replace O16 := (e1 _ (by decide) (by decide)).trans O16
  replace O17 := (e1 _ (by decide) (by decide)).trans O17
  replace O18 := (e1 _ (by decide) (by decide)).trans O18
  replace O19 := (e1 _ (by decide) (by decide)).trans O19
  replace O20 := (e1 _ (by decide) (by decide)).trans O20
  replace O21 := (e1 _ (by decide) (by decide)).trans O21
  replace O22 := n1_1
  replace O23 := (e1 _ (by decide) (by decide)).trans O23
  replace O24 := (e1 _ (by decide) (by decide)).trans O24
  replace O25 := (e1 _ (by decide) (by decide)).trans O25
  replace O26 := (e1 _ (by decide) (by decide)).trans O26
  replace O27 := (e1 _ (by decide) (by decide)).trans O27
  replace O28 := (e1 _ (by decide) (by decide)).trans O28
  replace hV : ∀ j, j < 8 → h_1 (j + 4) = some (wB (j + 4) (_ )) := fun j hj => (e1 _ (by omega) (by omega)).trans (hV j hj)
  refine G_aload_n 1520 dL_law_1519 rfl rfl rfl ?_
  refine G_aload_n 1521 dL_law_1520 rfl rfl rfl ?_
  refine G_iload_n 1522 dL_law_1521 rfl rfl rfl ?_
  refine G_iconst 1523 1 dL_law_1522 rfl (by decide) ?_
  refine G_iadd 1524 dL_law_1523 rfl ?_
  refine G_sld 1525 lg.1 lg.2.1 lg.2.2.1 lg.2.2.2 dL_law_1524 rfl h1 ?_
  refine G_aload_n 1526 dL_law_1525 rfl rfl rfl ?_
  refine G_iload_n 1527 dL_law_1526 rfl rfl rfl ?_
  refine G_iconst 1528 2 dL_law_1527 rfl (by decide) ?_
  refine G_iadd 1529 dL_law_1528 rfl ?_
  refine G_sld 1530 lg.1 lg.2.1 lg.2.2.1 lg.2.2.2 dL_law_1529 rfl h2 ?_
  refine G_callVI 1533 (S_X10_behind X l O28 a1 (p := (xs (i + 1).toNatClampNeg)) (n := (xs (i + 2).toNatClampNeg))) dL_law_1530 rfl kX10_behind lk_L_191 rfl O28 (by decide) hRc rfl (Nat.le_of_ble_eq_true rfl) (fun v_2 h_2 q_2 => ?_)
  obtain ⟨ev2, z1_2, n2_0, e2⟩ := q_2
  replace O0 := (e2 _ (by decide)).trans O0
  replace O1 := (e2 _ (by decide)).trans O1
  replace O2 := (e2 _ (by decide)).trans O2
  replace O3 := (e2 _ (by decide)).trans O3
  replace O12 := (e2 _ (by decide)).trans O12
  replace O13 := (e2 _ (by decide)).trans O13
  replace O14 := (e2 _ (by decide)).trans O14
  replace O15 := (e2 _ (by decide)).trans O15
  replace O16 := (e2 _ (by decide)).trans O16
  replace O17 := (e2 _ (by decide)).trans O17
  replace O18 := (e2 _ (by decide)).trans O18
  replace O19 := (e2 _ (by decide)).trans O19
  replace O20 := (e2 _ (by decide)).trans O20
  replace O21 := (e2 _ (by decide)).trans O21
  replace O22 := (e2 _ (by decide)).trans O22
  replace O23 := (e2 _ (by decide)).trans O23
  replace O24 := (e2 _ (by decide)).trans O24
  replace O25 := (e2 _ (by decide)).trans O25
  replace O26 := (e2 _ (by decide)).trans O26
  replace O27 := (e2 _ (by decide)).trans O27
  replace O28 := n2_0
  replace hV : ∀ j, j < 8 → h_2 (j + 4) = some (wB (j + 4) (_ )) := fun j hj => (e2 _ (by omega)).trans (hV j hj)
  obtain rfl : v_1 = v_2 := ev1.symm.trans ev2
  refine G_icmp_eq 1755 1536 dL_law_1533 (by decide) rfl (fun _ => ?_) (fun z => absurd rfl z)
  exact kk _ ⟨_, _, _, _, _, _, _, _, _, _, _, _, _, _, _, _, _, _, _, _, _, _, _, _, _, _, _, _, _, _, ⟨O0, O1, O2, O3, hV, O12, O13, O14, O15, O16, O17, O18, O19, O20, O21, O22, O23, O24, O25, O26, O27, O28⟩, ok⟩
set_option maxHeartbeats 4000000 in
set_option maxRecDepth 100000 in
theorem K_give {G : GX} {X : En} {l : Launch} {nc ns : Nat} (hRc : nc ≤ 600000 ∧ ns ≤ 7302250) {b L : Nat} {xs : Nat → Int32} (lg : LG G X b L xs) {i : Int32} (h1 : vp_in (i + 1) L) (h2 : vp_in (i + 2) L) (h3 : vp_in (i + 3) L) (h4 : vp_in (i + 4) L) {h : Hp} (hI : Inv h) (kk : ∀ h', Inv h' → Ag G X l mL_law nc ns 1755 (lwL i) [] h') : Ag G X l mL_law nc ns 1538 (lwL i) [] h := by
  obtain ⟨x, g, r, xi, np, kp, V, t12, n12, k12, t15, n15, im, T, z, W, x13, y14, y16, t17, n17, y18, y20, y22, y23, x24, s25, t25, y26, x27, ⟨O0, O1, O2, O3, hV, O12, O13, O14, O15, O16, O17, O18, O19, O20, O21, O22, O23, O24, O25, O26, O27, O28⟩, ok⟩ := hI
  obtain ⟨a1, a2, a3, a4, a5, a6, a7, a8, a9, a10, a11⟩ := id ok
  refine G_aload_n 1539 dL_law_1538 rfl rfl rfl ?_
  refine G_aload_n 1540 dL_law_1539 rfl rfl rfl ?_
  refine G_iload_n 1541 dL_law_1540 rfl rfl rfl ?_
  refine G_iconst 1542 1 dL_law_1541 rfl (by decide) ?_
  refine G_iadd 1543 dL_law_1542 rfl ?_
  refine G_sld 1544 lg.1 lg.2.1 lg.2.2.1 lg.2.2.2 dL_law_1543 rfl h1 ?_
  refine G_aload_n 1545 dL_law_1544 rfl rfl rfl ?_
  refine G_iload_n 1546 dL_law_1545 rfl rfl rfl ?_
  refine G_iconst 1547 2 dL_law_1546 rfl (by decide) ?_
  refine G_iadd 1548 dL_law_1547 rfl ?_
  refine G_sld 1549 lg.1 lg.2.1 lg.2.2.1 lg.2.2.2 dL_law_1548 rfl h2 ?_
  refine G_callVI 1552 (S_X9_give X l O0 O1 a1 O25 O26 (a := (xs (i + 1).toNatClampNeg)) (b := (xs (i + 2).toNatClampNeg))) dL_law_1549 rfl kX9_give lk_L_192 rfl O0 (by decide) hRc rfl (Nat.le_of_ble_eq_true rfl) (fun v_1 h_1 q_1 => ?_)
  obtain ⟨ev1, z26_1, n1_0, n1_1, e1⟩ := q_1
  replace O0 := n1_0
  replace O1 := (e1 _ (by decide) (by decide)).trans O1
  replace O2 := (e1 _ (by decide) (by decide)).trans O2
  replace O3 := (e1 _ (by decide) (by decide)).trans O3
  replace O12 := (e1 _ (by decide) (by decide)).trans O12
  replace O13 := (e1 _ (by decide) (by decide)).trans O13
  replace O14 := (e1 _ (by decide) (by decide)).trans O14
  replace O15 := (e1 _ (by decide) (by decide)).trans O15
  replace O16 := (e1 _ (by decide) (by decide)).trans O16
  replace O17 := (e1 _ (by decide) (by decide)).trans O17
  replace O18 := (e1 _ (by decide) (by decide)).trans O18
  replace O19 := (e1 _ (by decide) (by decide)).trans O19
  replace O20 := (e1 _ (by decide) (by decide)).trans O20
  replace O21 := (e1 _ (by decide) (by decide)).trans O21
  replace O22 := (e1 _ (by decide) (by decide)).trans O22
  replace O23 := (e1 _ (by decide) (by decide)).trans O23
  replace O24 := (e1 _ (by decide) (by decide)).trans O24
  replace O25 := (e1 _ (by decide) (by decide)).trans O25
  replace O26 := n1_1
  replace O27 := (e1 _ (by decide) (by decide)).trans O27
  replace O28 := (e1 _ (by decide) (by decide)).trans O28
  replace hV : ∀ j, j < 8 → h_1 (j + 4) = some (wB (j + 4) (_ )) := fun j hj => (e1 _ (by omega) (by omega)).trans (hV j hj)
  refine G_aload_n 1553 dL_law_1552 rfl rfl rfl ?_
  refine G_aload_n 1554 dL_law_1553 rfl rfl rfl ?_
  refine G_iload_n 1555 dL_law_1554 rfl rfl rfl ?_
  refine G_iconst 1556 1 dL_law_1555 rfl (by decide) ?_
  refine G_iadd 1557 dL_law_1556 rfl ?_
  refine G_sld 1558 lg.1 lg.2.1 lg.2.2.1 lg.2.2.2 dL_law_1557 rfl h1 ?_
  refine G_aload_n 1559 dL_law_1558 rfl rfl rfl ?_
  refine G_iload_n 1560 dL_law_1559 rfl rfl rfl ?_
  refine G_iconst 1561 2 dL_law_1560 rfl (by decide) ?_
  refine G_iadd 1562 dL_law_1561 rfl ?_
  refine G_sld 1563 lg.1 lg.2.1 lg.2.2.1 lg.2.2.2 dL_law_1562 rfl h2 ?_
  refine G_callVI 1566 (S_X10_give X l O28 a1 (a := (xs (i + 1).toNatClampNeg)) (b := (xs (i + 2).toNatClampNeg))) dL_law_1563 rfl kX10_give lk_L_195 rfl O28 (by decide) hRc rfl (Nat.le_of_ble_eq_true rfl) (fun v_2 h_2 q_2 => ?_)
  obtain ⟨ev2, z1_2, n2_0, e2⟩ := q_2
  replace O0 := (e2 _ (by decide)).trans O0
  replace O1 := (e2 _ (by decide)).trans O1
  replace O2 := (e2 _ (by decide)).trans O2
  replace O3 := (e2 _ (by decide)).trans O3
  replace O12 := (e2 _ (by decide)).trans O12
  replace O13 := (e2 _ (by decide)).trans O13
  replace O14 := (e2 _ (by decide)).trans O14
  replace O15 := (e2 _ (by decide)).trans O15
  replace O16 := (e2 _ (by decide)).trans O16
  replace O17 := (e2 _ (by decide)).trans O17
  replace O18 := (e2 _ (by decide)).trans O18
  replace O19 := (e2 _ (by decide)).trans O19
  replace O20 := (e2 _ (by decide)).trans O20
  replace O21 := (e2 _ (by decide)).trans O21
  replace O22 := (e2 _ (by decide)).trans O22
  replace O23 := (e2 _ (by decide)).trans O23
  replace O24 := (e2 _ (by decide)).trans O24
  replace O25 := (e2 _ (by decide)).trans O25
  replace O26 := (e2 _ (by decide)).trans O26
  replace O27 := (e2 _ (by decide)).trans O27
  replace O28 := n2_0
  replace hV : ∀ j, j < 8 → h_2 (j + 4) = some (wB (j + 4) (_ )) := fun j hj => (e2 _ (by omega)).trans (hV j hj)
  obtain rfl : v_1 = v_2 := ev1.symm.trans ev2
  refine G_icmp_eq 1755 1569 dL_law_1566 (by decide) rfl (fun _ => ?_) (fun z => absurd rfl z)
  exact kk _ ⟨_, _, _, _, _, _, _, _, _, _, _, _, _, _, _, _, _, _, _, _, _, _, _, _, _, _, _, _, _, _, ⟨O0, O1, O2, O3, hV, O12, O13, O14, O15, O16, O17, O18, O19, O20, O21, O22, O23, O24, O25, O26, O27, O28⟩, ok⟩
set_option maxHeartbeats 4000000 in
set_option maxRecDepth 100000 in
theorem K_ever {G : GX} {X : En} {l : Launch} {nc ns : Nat} (hRc : nc ≤ 600000 ∧ ns ≤ 7302250) {b L : Nat} {xs : Nat → Int32} (lg : LG G X b L xs) {i : Int32} (h1 : vp_in (i + 1) L) (h2 : vp_in (i + 2) L) (h3 : vp_in (i + 3) L) (h4 : vp_in (i + 4) L) {h : Hp} (hI : Inv h) (kk : ∀ h', Inv h' → Ag G X l mL_law nc ns 1755 (lwL i) [] h') : Ag G X l mL_law nc ns 1571 (lwL i) [] h := by
  obtain ⟨x, g, r, xi, np, kp, V, t12, n12, k12, t15, n15, im, T, z, W, x13, y14, y16, t17, n17, y18, y20, y22, y23, x24, s25, t25, y26, x27, ⟨O0, O1, O2, O3, hV, O12, O13, O14, O15, O16, O17, O18, O19, O20, O21, O22, O23, O24, O25, O26, O27, O28⟩, ok⟩ := hI
  obtain ⟨a1, a2, a3, a4, a5, a6, a7, a8, a9, a10, a11⟩ := id ok
  refine G_aload_n 1572 dL_law_1571 rfl rfl rfl ?_
  refine G_aload_n 1573 dL_law_1572 rfl rfl rfl ?_
  refine G_iload_n 1574 dL_law_1573 rfl rfl rfl ?_
  refine G_iconst 1575 1 dL_law_1574 rfl (by decide) ?_
  refine G_iadd 1576 dL_law_1575 rfl ?_
  refine G_sld 1577 lg.1 lg.2.1 lg.2.2.1 lg.2.2.2 dL_law_1576 rfl h1 ?_
  refine G_aload_n 1578 dL_law_1577 rfl rfl rfl ?_
  refine G_iload_n 1579 dL_law_1578 rfl rfl rfl ?_
  refine G_iconst 1580 2 dL_law_1579 rfl (by decide) ?_
  refine G_iadd 1581 dL_law_1580 rfl ?_
  refine G_sld 1582 lg.1 lg.2.1 lg.2.2.1 lg.2.2.2 dL_law_1581 rfl h2 ?_
  refine G_callVI 1585 (S_X9_ever X l O0 O1 a1 O21 O22 (p := (xs (i + 1).toNatClampNeg)) (n := (xs (i + 2).toNatClampNeg))) dL_law_1582 rfl kX9_ever lk_L_196 rfl O0 (by decide) hRc rfl (Nat.le_of_ble_eq_true rfl) (fun v_1 h_1 q_1 => ?_)
  obtain ⟨ev1, z22_1, n1_0, n1_1, e1⟩ := q_1
  replace O0 := n1_0
  replace O1 := (e1 _ (by decide) (by decide)).trans O1
  replace O2 := (e1 _ (by decide) (by decide)).trans O2
  replace O3 := (e1 _ (by decide) (by decide)).trans O3
  replace O12 := (e1 _ (by decide) (by decide)).trans O12
  replace O13 := (e1 _ (by decide) (by decide)).trans O13
  replace O14 := (e1 _ (by decide) (by decide)).trans O14
  replace O15 := (e1 _ (by decide) (by decide)).trans O15
  replace O16 := (e1 _ (by decide) (by decide)).trans O16
  replace O17 := (e1 _ (by decide) (by decide)).trans O17
  replace O18 := (e1 _ (by decide) (by decide)).trans O18
  replace O19 := (e1 _ (by decide) (by decide)).trans O19
  replace O20 := (e1 _ (by decide) (by decide)).trans O20
  replace O21 := (e1 _ (by decide) (by decide)).trans O21
  replace O22 := n1_1
  replace O23 := (e1 _ (by decide) (by decide)).trans O23
  replace O24 := (e1 _ (by decide) (by decide)).trans O24
  replace O25 := (e1 _ (by decide) (by decide)).trans O25
  replace O26 := (e1 _ (by decide) (by decide)).trans O26
  replace O27 := (e1 _ (by decide) (by decide)).trans O27
  replace O28 := (e1 _ (by decide) (by decide)).trans O28
  replace hV : ∀ j, j < 8 → h_1 (j + 4) = some (wB (j + 4) (_ )) := fun j hj => (e1 _ (by omega) (by omega)).trans (hV j hj)
  refine G_aload_n 1586 dL_law_1585 rfl rfl rfl ?_
  refine G_aload_n 1587 dL_law_1586 rfl rfl rfl ?_
  refine G_iload_n 1588 dL_law_1587 rfl rfl rfl ?_
  refine G_iconst 1589 1 dL_law_1588 rfl (by decide) ?_
  refine G_iadd 1590 dL_law_1589 rfl ?_
  refine G_sld 1591 lg.1 lg.2.1 lg.2.2.1 lg.2.2.2 dL_law_1590 rfl h1 ?_
  refine G_aload_n 1592 dL_law_1591 rfl rfl rfl ?_
  refine G_iload_n 1593 dL_law_1592 rfl rfl rfl ?_
  refine G_iconst 1594 2 dL_law_1593 rfl (by decide) ?_
  refine G_iadd 1595 dL_law_1594 rfl ?_
  refine G_sld 1596 lg.1 lg.2.1 lg.2.2.1 lg.2.2.2 dL_law_1595 rfl h2 ?_
  refine G_callVI 1599 (S_X10_ever X l O28 a1 (p := (xs (i + 1).toNatClampNeg)) (n := (xs (i + 2).toNatClampNeg))) dL_law_1596 rfl kX10_ever lk_L_199 rfl O28 (by decide) hRc rfl (Nat.le_of_ble_eq_true rfl) (fun v_2 h_2 q_2 => ?_)
  obtain ⟨ev2, z1_2, n2_0, e2⟩ := q_2
  replace O0 := (e2 _ (by decide)).trans O0
  replace O1 := (e2 _ (by decide)).trans O1
  replace O2 := (e2 _ (by decide)).trans O2
  replace O3 := (e2 _ (by decide)).trans O3
  replace O12 := (e2 _ (by decide)).trans O12
  replace O13 := (e2 _ (by decide)).trans O13
  replace O14 := (e2 _ (by decide)).trans O14
  replace O15 := (e2 _ (by decide)).trans O15
  replace O16 := (e2 _ (by decide)).trans O16
  replace O17 := (e2 _ (by decide)).trans O17
  replace O18 := (e2 _ (by decide)).trans O18
  replace O19 := (e2 _ (by decide)).trans O19
  replace O20 := (e2 _ (by decide)).trans O20
  replace O21 := (e2 _ (by decide)).trans O21
  replace O22 := (e2 _ (by decide)).trans O22
  replace O23 := (e2 _ (by decide)).trans O23
  replace O24 := (e2 _ (by decide)).trans O24
  replace O25 := (e2 _ (by decide)).trans O25
  replace O26 := (e2 _ (by decide)).trans O26
  replace O27 := (e2 _ (by decide)).trans O27
  replace O28 := n2_0
  replace hV : ∀ j, j < 8 → h_2 (j + 4) = some (wB (j + 4) (_ )) := fun j hj => (e2 _ (by omega)).trans (hV j hj)
  obtain rfl : v_1 = v_2 := ev1.symm.trans ev2
  refine G_icmp_eq 1755 1602 dL_law_1599 (by decide) rfl (fun _ => ?_) (fun z => absurd rfl z)
  exact kk _ ⟨_, _, _, _, _, _, _, _, _, _, _, _, _, _, _, _, _, _, _, _, _, _, _, _, _, _, _, _, _, _, ⟨O0, O1, O2, O3, hV, O12, O13, O14, O15, O16, O17, O18, O19, O20, O21, O22, O23, O24, O25, O26, O27, O28⟩, ok⟩
set_option maxHeartbeats 4000000 in
set_option maxRecDepth 100000 in
theorem K_row {G : GX} {X : En} {l : Launch} {nc ns : Nat} (hRc : nc ≤ 600000 ∧ ns ≤ 7302250) {b L : Nat} {xs : Nat → Int32} (lg : LG G X b L xs) {i : Int32} (h1 : vp_in (i + 1) L) (h2 : vp_in (i + 2) L) (h3 : vp_in (i + 3) L) (h4 : vp_in (i + 4) L) {h : Hp} (hI : Inv h) (kk : ∀ h', Inv h' → Ag G X l mL_law nc ns 1755 (lwL i) [] h') : Ag G X l mL_law nc ns 1604 (lwL i) [] h := by
  obtain ⟨x, g, r, xi, np, kp, V, t12, n12, k12, t15, n15, im, T, z, W, x13, y14, y16, t17, n17, y18, y20, y22, y23, x24, s25, t25, y26, x27, ⟨O0, O1, O2, O3, hV, O12, O13, O14, O15, O16, O17, O18, O19, O20, O21, O22, O23, O24, O25, O26, O27, O28⟩, ok⟩ := hI
  obtain ⟨a1, a2, a3, a4, a5, a6, a7, a8, a9, a10, a11⟩ := id ok
  refine G_aload_n 1605 dL_law_1604 rfl rfl rfl ?_
  refine G_aload_n 1606 dL_law_1605 rfl rfl rfl ?_
  refine G_iload_n 1607 dL_law_1606 rfl rfl rfl ?_
  refine G_iconst 1608 1 dL_law_1607 rfl (by decide) ?_
  refine G_iadd 1609 dL_law_1608 rfl ?_
  refine G_sld 1610 lg.1 lg.2.1 lg.2.2.1 lg.2.2.2 dL_law_1609 rfl h1 ?_
  refine G_callVI 1613 (S_X9_row X l O0 O1 a1 O15 a7 (v := (xs (i + 1).toNatClampNeg))) dL_law_1610 rfl kX9_row lk_L_200 rfl O0 (by decide) hRc rfl (Nat.le_of_ble_eq_true rfl) (fun v_1 h_1 q_1 => ?_)
  obtain ⟨ev1, n1_0, n1_1, e1⟩ := q_1
  replace O0 := n1_0
  replace O1 := (e1 _ (by decide) (by decide)).trans O1
  replace O2 := (e1 _ (by decide) (by decide)).trans O2
  replace O3 := (e1 _ (by decide) (by decide)).trans O3
  replace O12 := (e1 _ (by decide) (by decide)).trans O12
  replace O13 := (e1 _ (by decide) (by decide)).trans O13
  replace O14 := (e1 _ (by decide) (by decide)).trans O14
  replace O15 := n1_1
  replace O16 := (e1 _ (by decide) (by decide)).trans O16
  replace O17 := (e1 _ (by decide) (by decide)).trans O17
  replace O18 := (e1 _ (by decide) (by decide)).trans O18
  replace O19 := (e1 _ (by decide) (by decide)).trans O19
  replace O20 := (e1 _ (by decide) (by decide)).trans O20
  replace O21 := (e1 _ (by decide) (by decide)).trans O21
  replace O22 := (e1 _ (by decide) (by decide)).trans O22
  replace O23 := (e1 _ (by decide) (by decide)).trans O23
  replace O24 := (e1 _ (by decide) (by decide)).trans O24
  replace O25 := (e1 _ (by decide) (by decide)).trans O25
  replace O26 := (e1 _ (by decide) (by decide)).trans O26
  replace O27 := (e1 _ (by decide) (by decide)).trans O27
  replace O28 := (e1 _ (by decide) (by decide)).trans O28
  replace hV : ∀ j, j < 8 → h_1 (j + 4) = some (wB (j + 4) (_ )) := fun j hj => (e1 _ (by omega) (by omega)).trans (hV j hj)
  refine G_aload_n 1614 dL_law_1613 rfl rfl rfl ?_
  refine G_aload_n 1615 dL_law_1614 rfl rfl rfl ?_
  refine G_iload_n 1616 dL_law_1615 rfl rfl rfl ?_
  refine G_iconst 1617 1 dL_law_1616 rfl (by decide) ?_
  refine G_iadd 1618 dL_law_1617 rfl ?_
  refine G_sld 1619 lg.1 lg.2.1 lg.2.2.1 lg.2.2.2 dL_law_1618 rfl h1 ?_
  refine G_callVI 1622 (S_X10_row X l O28 a1 a7 (v := (xs (i + 1).toNatClampNeg))) dL_law_1619 rfl kX10_row lk_L_203 rfl O28 (by decide) hRc rfl (Nat.le_of_ble_eq_true rfl) (fun v_2 h_2 q_2 => ?_)
  obtain ⟨ev2, z1_2, n2_0, e2⟩ := q_2
  replace O0 := (e2 _ (by decide)).trans O0
  replace O1 := (e2 _ (by decide)).trans O1
  replace O2 := (e2 _ (by decide)).trans O2
  replace O3 := (e2 _ (by decide)).trans O3
  replace O12 := (e2 _ (by decide)).trans O12
  replace O13 := (e2 _ (by decide)).trans O13
  replace O14 := (e2 _ (by decide)).trans O14
  replace O15 := (e2 _ (by decide)).trans O15
  replace O16 := (e2 _ (by decide)).trans O16
  replace O17 := (e2 _ (by decide)).trans O17
  replace O18 := (e2 _ (by decide)).trans O18
  replace O19 := (e2 _ (by decide)).trans O19
  replace O20 := (e2 _ (by decide)).trans O20
  replace O21 := (e2 _ (by decide)).trans O21
  replace O22 := (e2 _ (by decide)).trans O22
  replace O23 := (e2 _ (by decide)).trans O23
  replace O24 := (e2 _ (by decide)).trans O24
  replace O25 := (e2 _ (by decide)).trans O25
  replace O26 := (e2 _ (by decide)).trans O26
  replace O27 := (e2 _ (by decide)).trans O27
  replace O28 := n2_0
  replace hV : ∀ j, j < 8 → h_2 (j + 4) = some (wB (j + 4) (_ )) := fun j hj => (e2 _ (by omega)).trans (hV j hj)
  obtain rfl : v_1 = v_2 := ev1.symm.trans ev2
  refine G_icmp_eq 1755 1625 dL_law_1622 (by decide) rfl (fun _ => ?_) (fun z => absurd rfl z)
  exact kk _ ⟨_, _, _, _, _, _, _, _, _, _, _, _, _, _, _, _, _, _, _, _, _, _, _, _, _, _, _, _, _, _, ⟨O0, O1, O2, O3, hV, O12, O13, O14, O15, O16, O17, O18, O19, O20, O21, O22, O23, O24, O25, O26, O27, O28⟩, (ok_row ok)⟩
set_option maxHeartbeats 4000000 in
set_option maxRecDepth 100000 in
theorem K_judge {G : GX} {X : En} {l : Launch} {nc ns : Nat} (hRc : nc ≤ 600000 ∧ ns ≤ 7302250) {b L : Nat} {xs : Nat → Int32} (lg : LG G X b L xs) {i : Int32} (h1 : vp_in (i + 1) L) (h2 : vp_in (i + 2) L) (h3 : vp_in (i + 3) L) (h4 : vp_in (i + 4) L) {h : Hp} (hI : Inv h) (kk : ∀ h', Inv h' → Ag G X l mL_law nc ns 1755 (lwL i) [] h') : Ag G X l mL_law nc ns 1627 (lwL i) [] h := by
  obtain ⟨x, g, r, xi, np, kp, V, t12, n12, k12, t15, n15, im, T, z, W, x13, y14, y16, t17, n17, y18, y20, y22, y23, x24, s25, t25, y26, x27, ⟨O0, O1, O2, O3, hV, O12, O13, O14, O15, O16, O17, O18, O19, O20, O21, O22, O23, O24, O25, O26, O27, O28⟩, ok⟩ := hI
  obtain ⟨a1, a2, a3, a4, a5, a6, a7, a8, a9, a10, a11⟩ := id ok
  refine G_aload_n 1628 dL_law_1627 rfl rfl rfl ?_
  refine G_aload_n 1629 dL_law_1628 rfl rfl rfl ?_
  refine G_iload_n 1630 dL_law_1629 rfl rfl rfl ?_
  refine G_iconst 1631 1 dL_law_1630 rfl (by decide) ?_
  refine G_iadd 1632 dL_law_1631 rfl ?_
  refine G_sld 1633 lg.1 lg.2.1 lg.2.2.1 lg.2.2.2 dL_law_1632 rfl h1 ?_
  refine G_callVI 1636 (S_X9_judge X l O0 O1 a1 O15 a7 O16 (p := (xs (i + 1).toNatClampNeg))) dL_law_1633 rfl kX9_judge lk_L_204 rfl O0 (by decide) hRc rfl (Nat.le_of_ble_eq_true rfl) (fun v_1 h_1 q_1 => ?_)
  obtain ⟨ev1, z16_1, n1_0, n1_1, n1_2, e1⟩ := q_1
  replace O0 := n1_0
  replace O1 := (e1 _ (by decide) (by decide) (by decide)).trans O1
  replace O2 := (e1 _ (by decide) (by decide) (by decide)).trans O2
  replace O3 := (e1 _ (by decide) (by decide) (by decide)).trans O3
  replace O12 := (e1 _ (by decide) (by decide) (by decide)).trans O12
  replace O13 := (e1 _ (by decide) (by decide) (by decide)).trans O13
  replace O14 := (e1 _ (by decide) (by decide) (by decide)).trans O14
  replace O15 := n1_1
  replace O16 := n1_2
  replace O17 := (e1 _ (by decide) (by decide) (by decide)).trans O17
  replace O18 := (e1 _ (by decide) (by decide) (by decide)).trans O18
  replace O19 := (e1 _ (by decide) (by decide) (by decide)).trans O19
  replace O20 := (e1 _ (by decide) (by decide) (by decide)).trans O20
  replace O21 := (e1 _ (by decide) (by decide) (by decide)).trans O21
  replace O22 := (e1 _ (by decide) (by decide) (by decide)).trans O22
  replace O23 := (e1 _ (by decide) (by decide) (by decide)).trans O23
  replace O24 := (e1 _ (by decide) (by decide) (by decide)).trans O24
  replace O25 := (e1 _ (by decide) (by decide) (by decide)).trans O25
  replace O26 := (e1 _ (by decide) (by decide) (by decide)).trans O26
  replace O27 := (e1 _ (by decide) (by decide) (by decide)).trans O27
  replace O28 := (e1 _ (by decide) (by decide) (by decide)).trans O28
  replace hV : ∀ j, j < 8 → h_1 (j + 4) = some (wB (j + 4) (_ )) := fun j hj => (e1 _ (by omega) (by omega) (by omega)).trans (hV j hj)
  refine G_aload_n 1637 dL_law_1636 rfl rfl rfl ?_
  refine G_aload_n 1638 dL_law_1637 rfl rfl rfl ?_
  refine G_iload_n 1639 dL_law_1638 rfl rfl rfl ?_
  refine G_iconst 1640 1 dL_law_1639 rfl (by decide) ?_
  refine G_iadd 1641 dL_law_1640 rfl ?_
  refine G_sld 1642 lg.1 lg.2.1 lg.2.2.1 lg.2.2.2 dL_law_1641 rfl h1 ?_
  refine G_callVI 1645 (S_X10_judge X l O28 a1 a7 (p := (xs (i + 1).toNatClampNeg))) dL_law_1642 rfl kX10_judge lk_L_207 rfl O28 (by decide) hRc rfl (Nat.le_of_ble_eq_true rfl) (fun v_2 h_2 q_2 => ?_)
  obtain ⟨ev2, z1_2, n2_0, e2⟩ := q_2
  replace O0 := (e2 _ (by decide)).trans O0
  replace O1 := (e2 _ (by decide)).trans O1
  replace O2 := (e2 _ (by decide)).trans O2
  replace O3 := (e2 _ (by decide)).trans O3
  replace O12 := (e2 _ (by decide)).trans O12
  replace O13 := (e2 _ (by decide)).trans O13
  replace O14 := (e2 _ (by decide)).trans O14
  replace O15 := (e2 _ (by decide)).trans O15
  replace O16 := (e2 _ (by decide)).trans O16
  replace O17 := (e2 _ (by decide)).trans O17
  replace O18 := (e2 _ (by decide)).trans O18
  replace O19 := (e2 _ (by decide)).trans O19
  replace O20 := (e2 _ (by decide)).trans O20
  replace O21 := (e2 _ (by decide)).trans O21
  replace O22 := (e2 _ (by decide)).trans O22
  replace O23 := (e2 _ (by decide)).trans O23
  replace O24 := (e2 _ (by decide)).trans O24
  replace O25 := (e2 _ (by decide)).trans O25
  replace O26 := (e2 _ (by decide)).trans O26
  replace O27 := (e2 _ (by decide)).trans O27
  replace O28 := n2_0
  replace hV : ∀ j, j < 8 → h_2 (j + 4) = some (wB (j + 4) (_ )) := fun j hj => (e2 _ (by omega)).trans (hV j hj)
  obtain rfl : v_1 = v_2 := ev1.symm.trans ev2
  refine G_icmp_eq 1755 1648 dL_law_1645 (by decide) rfl (fun _ => ?_) (fun z => absurd rfl z)
  exact kk _ ⟨_, _, _, _, _, _, _, _, _, _, _, _, _, _, _, _, _, _, _, _, _, _, _, _, _, _, _, _, _, _, ⟨O0, O1, O2, O3, hV, O12, O13, O14, O15, O16, O17, O18, O19, O20, O21, O22, O23, O24, O25, O26, O27, O28⟩, (ok_judge ok)⟩
set_option maxHeartbeats 4000000 in
set_option maxRecDepth 100000 in
theorem K_clear {G : GX} {X : En} {l : Launch} {nc ns : Nat} (hRc : nc ≤ 600000 ∧ ns ≤ 7302250) {b L : Nat} {xs : Nat → Int32} (lg : LG G X b L xs) {i : Int32} (h1 : vp_in (i + 1) L) (h2 : vp_in (i + 2) L) (h3 : vp_in (i + 3) L) (h4 : vp_in (i + 4) L) {h : Hp} (hI : Inv h) (kk : ∀ h', Inv h' → Ag G X l mL_law nc ns 1755 (lwL i) [] h') : Ag G X l mL_law nc ns 1650 (lwL i) [] h := by
  obtain ⟨x, g, r, xi, np, kp, V, t12, n12, k12, t15, n15, im, T, z, W, x13, y14, y16, t17, n17, y18, y20, y22, y23, x24, s25, t25, y26, x27, ⟨O0, O1, O2, O3, hV, O12, O13, O14, O15, O16, O17, O18, O19, O20, O21, O22, O23, O24, O25, O26, O27, O28⟩, ok⟩ := hI
  obtain ⟨a1, a2, a3, a4, a5, a6, a7, a8, a9, a10, a11⟩ := id ok
  refine G_aload_n 1651 dL_law_1650 rfl rfl rfl ?_
  refine G_callVI 1654 (S_X9_clear X l O0 O15) dL_law_1651 rfl kX9_clear lk_L_208 rfl O0 (by decide) hRc rfl (Nat.le_of_ble_eq_true rfl) (fun v_1 h_1 q_1 => ?_)
  obtain ⟨ev1, n1_0, e1⟩ := q_1
  replace O0 := (e1 _ (by decide)).trans O0
  replace O1 := (e1 _ (by decide)).trans O1
  replace O2 := (e1 _ (by decide)).trans O2
  replace O3 := (e1 _ (by decide)).trans O3
  replace O12 := (e1 _ (by decide)).trans O12
  replace O13 := (e1 _ (by decide)).trans O13
  replace O14 := (e1 _ (by decide)).trans O14
  replace O15 := n1_0
  replace O16 := (e1 _ (by decide)).trans O16
  replace O17 := (e1 _ (by decide)).trans O17
  replace O18 := (e1 _ (by decide)).trans O18
  replace O19 := (e1 _ (by decide)).trans O19
  replace O20 := (e1 _ (by decide)).trans O20
  replace O21 := (e1 _ (by decide)).trans O21
  replace O22 := (e1 _ (by decide)).trans O22
  replace O23 := (e1 _ (by decide)).trans O23
  replace O24 := (e1 _ (by decide)).trans O24
  replace O25 := (e1 _ (by decide)).trans O25
  replace O26 := (e1 _ (by decide)).trans O26
  replace O27 := (e1 _ (by decide)).trans O27
  replace O28 := (e1 _ (by decide)).trans O28
  replace hV : ∀ j, j < 8 → h_1 (j + 4) = some (wB (j + 4) (_ )) := fun j hj => (e1 _ (by omega)).trans (hV j hj)
  refine G_aload_n 1655 dL_law_1654 rfl rfl rfl ?_
  refine G_callVI 1658 (S_X10_clear X l O28) dL_law_1655 rfl kX10_clear lk_L_211 rfl O28 (by decide) hRc rfl (Nat.le_of_ble_eq_true rfl) (fun v_2 h_2 q_2 => ?_)
  obtain ⟨ev2, z1_2, n2_0, e2⟩ := q_2
  replace O0 := (e2 _ (by decide)).trans O0
  replace O1 := (e2 _ (by decide)).trans O1
  replace O2 := (e2 _ (by decide)).trans O2
  replace O3 := (e2 _ (by decide)).trans O3
  replace O12 := (e2 _ (by decide)).trans O12
  replace O13 := (e2 _ (by decide)).trans O13
  replace O14 := (e2 _ (by decide)).trans O14
  replace O15 := (e2 _ (by decide)).trans O15
  replace O16 := (e2 _ (by decide)).trans O16
  replace O17 := (e2 _ (by decide)).trans O17
  replace O18 := (e2 _ (by decide)).trans O18
  replace O19 := (e2 _ (by decide)).trans O19
  replace O20 := (e2 _ (by decide)).trans O20
  replace O21 := (e2 _ (by decide)).trans O21
  replace O22 := (e2 _ (by decide)).trans O22
  replace O23 := (e2 _ (by decide)).trans O23
  replace O24 := (e2 _ (by decide)).trans O24
  replace O25 := (e2 _ (by decide)).trans O25
  replace O26 := (e2 _ (by decide)).trans O26
  replace O27 := (e2 _ (by decide)).trans O27
  replace O28 := n2_0
  replace hV : ∀ j, j < 8 → h_2 (j + 4) = some (wB (j + 4) (_ )) := fun j hj => (e2 _ (by omega)).trans (hV j hj)
  obtain rfl : v_1 = v_2 := ev1.symm.trans ev2
  refine G_icmp_eq 1755 1661 dL_law_1658 (by decide) rfl (fun _ => ?_) (fun z => absurd rfl z)
  exact kk _ ⟨_, _, _, _, _, _, _, _, _, _, _, _, _, _, _, _, _, _, _, _, _, _, _, _, _, _, _, _, _, _, ⟨O0, O1, O2, O3, hV, O12, O13, O14, O15, O16, O17, O18, O19, O20, O21, O22, O23, O24, O25, O26, O27, O28⟩, (ok_clear ok)⟩
set_option maxHeartbeats 4000000 in
set_option maxRecDepth 100000 in
theorem K_lots {G : GX} {X : En} {l : Launch} {nc ns : Nat} (hRc : nc ≤ 600000 ∧ ns ≤ 7302250) {b L : Nat} {xs : Nat → Int32} (lg : LG G X b L xs) {i : Int32} (h1 : vp_in (i + 1) L) (h2 : vp_in (i + 2) L) (h3 : vp_in (i + 3) L) (h4 : vp_in (i + 4) L) {h : Hp} (hI : Inv h) (kk : ∀ h', Inv h' → Ag G X l mL_law nc ns 1755 (lwL i) [] h') : Ag G X l mL_law nc ns 1663 (lwL i) [] h := by
  obtain ⟨x, g, r, xi, np, kp, V, t12, n12, k12, t15, n15, im, T, z, W, x13, y14, y16, t17, n17, y18, y20, y22, y23, x24, s25, t25, y26, x27, ⟨O0, O1, O2, O3, hV, O12, O13, O14, O15, O16, O17, O18, O19, O20, O21, O22, O23, O24, O25, O26, O27, O28⟩, ok⟩ := hI
  obtain ⟨a1, a2, a3, a4, a5, a6, a7, a8, a9, a10, a11⟩ := id ok
  refine G_aload_n 1664 dL_law_1663 rfl rfl rfl ?_
  refine G_aload_n 1665 dL_law_1664 rfl rfl rfl ?_
  refine G_iload_n 1666 dL_law_1665 rfl rfl rfl ?_
  refine G_iconst 1667 1 dL_law_1666 rfl (by decide) ?_
  refine G_iadd 1668 dL_law_1667 rfl ?_
  refine G_sld 1669 lg.1 lg.2.1 lg.2.2.1 lg.2.2.2 dL_law_1668 rfl h1 ?_
  refine G_aload_n 1670 dL_law_1669 rfl rfl rfl ?_
  refine G_iload_n 1671 dL_law_1670 rfl rfl rfl ?_
  refine G_iconst 1672 2 dL_law_1671 rfl (by decide) ?_
  refine G_iadd 1673 dL_law_1672 rfl ?_
  refine G_sld 1674 lg.1 lg.2.1 lg.2.2.1 lg.2.2.2 dL_law_1673 rfl h2 ?_
  refine G_aload_n 1675 dL_law_1674 rfl rfl rfl ?_
  refine G_iload_n 1676 dL_law_1675 rfl rfl rfl ?_
  refine G_iconst 1677 3 dL_law_1676 rfl (by decide) ?_
  refine G_iadd 1678 dL_law_1677 rfl ?_
  refine G_sld 1679 lg.1 lg.2.1 lg.2.2.1 lg.2.2.2 dL_law_1678 rfl h3 ?_
  refine G_callVI 1682 (S_X9_lots X l O0 O1 a1 O25 O26 (n := (xs (i + 1).toNatClampNeg)) (z := (xs (i + 2).toNatClampNeg)) (v := (xs (i + 3).toNatClampNeg))) dL_law_1679 rfl kX9_lots lk_L_212 rfl O0 (by decide) hRc rfl (Nat.le_of_ble_eq_true rfl) (fun v_1 h_1 q_1 => ?_)
  obtain ⟨ev1, z26_1, n1_0, n1_1, e1⟩ := q_1
  replace O0 := n1_0
  replace O1 := (e1 _ (by decide) (by decide)).trans O1
  replace O2 := (e1 _ (by decide) (by decide)).trans O2
  replace O3 := (e1 _ (by decide) (by decide)).trans O3
  replace O12 := (e1 _ (by decide) (by decide)).trans O12
  replace O13 := (e1 _ (by decide) (by decide)).trans O13
  replace O14 := (e1 _ (by decide) (by decide)).trans O14
  replace O15 := (e1 _ (by decide) (by decide)).trans O15
  replace O16 := (e1 _ (by decide) (by decide)).trans O16
  replace O17 := (e1 _ (by decide) (by decide)).trans O17
  replace O18 := (e1 _ (by decide) (by decide)).trans O18
  replace O19 := (e1 _ (by decide) (by decide)).trans O19
  replace O20 := (e1 _ (by decide) (by decide)).trans O20
  replace O21 := (e1 _ (by decide) (by decide)).trans O21
  replace O22 := (e1 _ (by decide) (by decide)).trans O22
  replace O23 := (e1 _ (by decide) (by decide)).trans O23
  replace O24 := (e1 _ (by decide) (by decide)).trans O24
  replace O25 := (e1 _ (by decide) (by decide)).trans O25
  replace O26 := n1_1
  replace O27 := (e1 _ (by decide) (by decide)).trans O27
  replace O28 := (e1 _ (by decide) (by decide)).trans O28
  replace hV : ∀ j, j < 8 → h_1 (j + 4) = some (wB (j + 4) (_ )) := fun j hj => (e1 _ (by omega) (by omega)).trans (hV j hj)
  refine G_aload_n 1683 dL_law_1682 rfl rfl rfl ?_
  refine G_aload_n 1684 dL_law_1683 rfl rfl rfl ?_
  refine G_iload_n 1685 dL_law_1684 rfl rfl rfl ?_
  refine G_iconst 1686 1 dL_law_1685 rfl (by decide) ?_
  refine G_iadd 1687 dL_law_1686 rfl ?_
  refine G_sld 1688 lg.1 lg.2.1 lg.2.2.1 lg.2.2.2 dL_law_1687 rfl h1 ?_
  refine G_aload_n 1689 dL_law_1688 rfl rfl rfl ?_
  refine G_iload_n 1690 dL_law_1689 rfl rfl rfl ?_
  refine G_iconst 1691 2 dL_law_1690 rfl (by decide) ?_
  refine G_iadd 1692 dL_law_1691 rfl ?_
  refine G_sld 1693 lg.1 lg.2.1 lg.2.2.1 lg.2.2.2 dL_law_1692 rfl h2 ?_
  refine G_aload_n 1694 dL_law_1693 rfl rfl rfl ?_
  refine G_iload_n 1695 dL_law_1694 rfl rfl rfl ?_
  refine G_iconst 1696 3 dL_law_1695 rfl (by decide) ?_
  refine G_iadd 1697 dL_law_1696 rfl ?_
  refine G_sld 1698 lg.1 lg.2.1 lg.2.2.1 lg.2.2.2 dL_law_1697 rfl h3 ?_
  refine G_callVI 1701 (S_X10_lots X l O28 a1 (n := (xs (i + 1).toNatClampNeg)) (z0 := (xs (i + 2).toNatClampNeg)) (v := (xs (i + 3).toNatClampNeg))) dL_law_1698 rfl kX10_lots lk_L_215 rfl O28 (by decide) hRc rfl (Nat.le_of_ble_eq_true rfl) (fun v_2 h_2 q_2 => ?_)
  obtain ⟨ev2, z1_2, n2_0, e2⟩ := q_2
  replace O0 := (e2 _ (by decide)).trans O0
  replace O1 := (e2 _ (by decide)).trans O1
  replace O2 := (e2 _ (by decide)).trans O2
  replace O3 := (e2 _ (by decide)).trans O3
  replace O12 := (e2 _ (by decide)).trans O12
  replace O13 := (e2 _ (by decide)).trans O13
  replace O14 := (e2 _ (by decide)).trans O14
  replace O15 := (e2 _ (by decide)).trans O15
  replace O16 := (e2 _ (by decide)).trans O16
  replace O17 := (e2 _ (by decide)).trans O17
  replace O18 := (e2 _ (by decide)).trans O18
  replace O19 := (e2 _ (by decide)).trans O19
  replace O20 := (e2 _ (by decide)).trans O20
  replace O21 := (e2 _ (by decide)).trans O21
  replace O22 := (e2 _ (by decide)).trans O22
  replace O23 := (e2 _ (by decide)).trans O23
  replace O24 := (e2 _ (by decide)).trans O24
  replace O25 := (e2 _ (by decide)).trans O25
  replace O26 := (e2 _ (by decide)).trans O26
  replace O27 := (e2 _ (by decide)).trans O27
  replace O28 := n2_0
  replace hV : ∀ j, j < 8 → h_2 (j + 4) = some (wB (j + 4) (_ )) := fun j hj => (e2 _ (by omega)).trans (hV j hj)
  obtain rfl : v_1 = v_2 := ev1.symm.trans ev2
  refine G_icmp_eq 1755 1704 dL_law_1701 (by decide) rfl (fun _ => ?_) (fun z => absurd rfl z)
  exact kk _ ⟨_, _, _, _, _, _, _, _, _, _, _, _, _, _, _, _, _, _, _, _, _, _, _, _, _, _, _, _, _, _, ⟨O0, O1, O2, O3, hV, O12, O13, O14, O15, O16, O17, O18, O19, O20, O21, O22, O23, O24, O25, O26, O27, O28⟩, ok⟩
set_option maxHeartbeats 4000000 in
set_option maxRecDepth 100000 in
theorem K_image {G : GX} {X : En} {l : Launch} {nc ns : Nat} (hRc : nc ≤ 600000 ∧ ns ≤ 7302250) {b L : Nat} {xs : Nat → Int32} (lg : LG G X b L xs) {i : Int32} (h1 : vp_in (i + 1) L) (h2 : vp_in (i + 2) L) (h3 : vp_in (i + 3) L) (h4 : vp_in (i + 4) L) {h : Hp} (hI : Inv h) (kk : ∀ h', Inv h' → Ag G X l mL_law nc ns 1755 (lwL i) [] h') : Ag G X l mL_law nc ns 1706 (lwL i) [] h := by
  obtain ⟨x, g, r, xi, np, kp, V, t12, n12, k12, t15, n15, im, T, z, W, x13, y14, y16, t17, n17, y18, y20, y22, y23, x24, s25, t25, y26, x27, ⟨O0, O1, O2, O3, hV, O12, O13, O14, O15, O16, O17, O18, O19, O20, O21, O22, O23, O24, O25, O26, O27, O28⟩, ok⟩ := hI
  obtain ⟨a1, a2, a3, a4, a5, a6, a7, a8, a9, a10, a11⟩ := id ok
  refine G_aload_n 1707 dL_law_1706 rfl rfl rfl ?_
  refine G_callVI 1710 (S_X9_image X l O0 O1 O2) dL_law_1707 rfl kX9_image lk_L_216 rfl O0 (by decide) hRc rfl (Nat.le_of_ble_eq_true rfl) (fun v_1 h_1 q_1 => ?_)
  obtain ⟨ev1, n1_0, n1_1, e1⟩ := q_1
  replace O0 := n1_0
  replace O1 := (e1 _ (by decide) (by decide)).trans O1
  replace O2 := n1_1
  replace O3 := (e1 _ (by decide) (by decide)).trans O3
  replace O12 := (e1 _ (by decide) (by decide)).trans O12
  replace O13 := (e1 _ (by decide) (by decide)).trans O13
  replace O14 := (e1 _ (by decide) (by decide)).trans O14
  replace O15 := (e1 _ (by decide) (by decide)).trans O15
  replace O16 := (e1 _ (by decide) (by decide)).trans O16
  replace O17 := (e1 _ (by decide) (by decide)).trans O17
  replace O18 := (e1 _ (by decide) (by decide)).trans O18
  replace O19 := (e1 _ (by decide) (by decide)).trans O19
  replace O20 := (e1 _ (by decide) (by decide)).trans O20
  replace O21 := (e1 _ (by decide) (by decide)).trans O21
  replace O22 := (e1 _ (by decide) (by decide)).trans O22
  replace O23 := (e1 _ (by decide) (by decide)).trans O23
  replace O24 := (e1 _ (by decide) (by decide)).trans O24
  replace O25 := (e1 _ (by decide) (by decide)).trans O25
  replace O26 := (e1 _ (by decide) (by decide)).trans O26
  replace O27 := (e1 _ (by decide) (by decide)).trans O27
  replace O28 := (e1 _ (by decide) (by decide)).trans O28
  replace hV : ∀ j, j < 8 → h_1 (j + 4) = some (wB (j + 4) (_ )) := fun j hj => (e1 _ (by omega) (by omega)).trans (hV j hj)
  refine G_aload_n 1711 dL_law_1710 rfl rfl rfl ?_
  refine G_callVI 1714 (S_X10_image X l O28) dL_law_1711 rfl kX10_image lk_L_219 rfl O28 (by decide) hRc rfl (Nat.le_of_ble_eq_true rfl) (fun v_2 h_2 q_2 => ?_)
  obtain ⟨ev2, z1_2, n2_0, e2⟩ := q_2
  replace O0 := (e2 _ (by decide)).trans O0
  replace O1 := (e2 _ (by decide)).trans O1
  replace O2 := (e2 _ (by decide)).trans O2
  replace O3 := (e2 _ (by decide)).trans O3
  replace O12 := (e2 _ (by decide)).trans O12
  replace O13 := (e2 _ (by decide)).trans O13
  replace O14 := (e2 _ (by decide)).trans O14
  replace O15 := (e2 _ (by decide)).trans O15
  replace O16 := (e2 _ (by decide)).trans O16
  replace O17 := (e2 _ (by decide)).trans O17
  replace O18 := (e2 _ (by decide)).trans O18
  replace O19 := (e2 _ (by decide)).trans O19
  replace O20 := (e2 _ (by decide)).trans O20
  replace O21 := (e2 _ (by decide)).trans O21
  replace O22 := (e2 _ (by decide)).trans O22
  replace O23 := (e2 _ (by decide)).trans O23
  replace O24 := (e2 _ (by decide)).trans O24
  replace O25 := (e2 _ (by decide)).trans O25
  replace O26 := (e2 _ (by decide)).trans O26
  replace O27 := (e2 _ (by decide)).trans O27
  replace O28 := n2_0
  replace hV : ∀ j, j < 8 → h_2 (j + 4) = some (wB (j + 4) (_ )) := fun j hj => (e2 _ (by omega)).trans (hV j hj)
  obtain rfl : v_1 = v_2 := ev1.symm.trans ev2
  refine G_icmp_eq 1755 1717 dL_law_1714 (by decide) rfl (fun _ => ?_) (fun z => absurd rfl z)
  exact kk _ ⟨_, _, _, _, _, _, _, _, _, _, _, _, _, _, _, _, _, _, _, _, _, _, _, _, _, _, _, _, _, _, ⟨O0, O1, O2, O3, hV, O12, O13, O14, O15, O16, O17, O18, O19, O20, O21, O22, O23, O24, O25, O26, O27, O28⟩, (ok_image ok)⟩
set_option maxHeartbeats 4000000 in
set_option maxRecDepth 100000 in
theorem K_restore {G : GX} {X : En} {l : Launch} {nc ns : Nat} (hRc : nc ≤ 600000 ∧ ns ≤ 7302250) {b L : Nat} {xs : Nat → Int32} (lg : LG G X b L xs) {i : Int32} (h1 : vp_in (i + 1) L) (h2 : vp_in (i + 2) L) (h3 : vp_in (i + 3) L) (h4 : vp_in (i + 4) L) {h : Hp} (hI : Inv h) (kk : ∀ h', Inv h' → Ag G X l mL_law nc ns 1755 (lwL i) [] h') : Ag G X l mL_law nc ns 1719 (lwL i) [] h := by
  obtain ⟨x, g, r, xi, np, kp, V, t12, n12, k12, t15, n15, im, T, z, W, x13, y14, y16, t17, n17, y18, y20, y22, y23, x24, s25, t25, y26, x27, ⟨O0, O1, O2, O3, hV, O12, O13, O14, O15, O16, O17, O18, O19, O20, O21, O22, O23, O24, O25, O26, O27, O28⟩, ok⟩ := hI
  obtain ⟨a1, a2, a3, a4, a5, a6, a7, a8, a9, a10, a11⟩ := id ok
  refine G_aload_n 1720 dL_law_1719 rfl rfl rfl ?_
  refine G_callVI 1723 (S_X9_restore X l O0 O1 a1 O2 O3) dL_law_1720 rfl kX9_restore lk_L_220 rfl O0 (by decide) hRc rfl (Nat.le_of_ble_eq_true rfl) (fun v_1 h_1 q_1 => ?_)
  obtain ⟨ev1, n1_0, n1_1, n1_2, e1⟩ := q_1
  replace O0 := n1_0
  replace O1 := n1_1
  replace O2 := (e1 _ (by decide) (by decide) (by decide)).trans O2
  replace O3 := n1_2
  replace O12 := (e1 _ (by decide) (by decide) (by decide)).trans O12
  replace O13 := (e1 _ (by decide) (by decide) (by decide)).trans O13
  replace O14 := (e1 _ (by decide) (by decide) (by decide)).trans O14
  replace O15 := (e1 _ (by decide) (by decide) (by decide)).trans O15
  replace O16 := (e1 _ (by decide) (by decide) (by decide)).trans O16
  replace O17 := (e1 _ (by decide) (by decide) (by decide)).trans O17
  replace O18 := (e1 _ (by decide) (by decide) (by decide)).trans O18
  replace O19 := (e1 _ (by decide) (by decide) (by decide)).trans O19
  replace O20 := (e1 _ (by decide) (by decide) (by decide)).trans O20
  replace O21 := (e1 _ (by decide) (by decide) (by decide)).trans O21
  replace O22 := (e1 _ (by decide) (by decide) (by decide)).trans O22
  replace O23 := (e1 _ (by decide) (by decide) (by decide)).trans O23
  replace O24 := (e1 _ (by decide) (by decide) (by decide)).trans O24
  replace O25 := (e1 _ (by decide) (by decide) (by decide)).trans O25
  replace O26 := (e1 _ (by decide) (by decide) (by decide)).trans O26
  replace O27 := (e1 _ (by decide) (by decide) (by decide)).trans O27
  replace O28 := (e1 _ (by decide) (by decide) (by decide)).trans O28
  replace hV : ∀ j, j < 8 → h_1 (j + 4) = some (wB (j + 4) (_ )) := fun j hj => (e1 _ (by omega) (by omega) (by omega)).trans (hV j hj)
  refine G_aload_n 1724 dL_law_1723 rfl rfl rfl ?_
  refine G_callVI 1727 (S_X10_restore X l O28 a9) dL_law_1724 rfl kX10_restore lk_L_223 rfl O28 (by decide) hRc rfl (Nat.le_of_ble_eq_true rfl) (fun v_2 h_2 q_2 => ?_)
  obtain ⟨ev2, z1_2, n2_0, e2⟩ := q_2
  replace O0 := (e2 _ (by decide)).trans O0
  replace O1 := (e2 _ (by decide)).trans O1
  replace O2 := (e2 _ (by decide)).trans O2
  replace O3 := (e2 _ (by decide)).trans O3
  replace O12 := (e2 _ (by decide)).trans O12
  replace O13 := (e2 _ (by decide)).trans O13
  replace O14 := (e2 _ (by decide)).trans O14
  replace O15 := (e2 _ (by decide)).trans O15
  replace O16 := (e2 _ (by decide)).trans O16
  replace O17 := (e2 _ (by decide)).trans O17
  replace O18 := (e2 _ (by decide)).trans O18
  replace O19 := (e2 _ (by decide)).trans O19
  replace O20 := (e2 _ (by decide)).trans O20
  replace O21 := (e2 _ (by decide)).trans O21
  replace O22 := (e2 _ (by decide)).trans O22
  replace O23 := (e2 _ (by decide)).trans O23
  replace O24 := (e2 _ (by decide)).trans O24
  replace O25 := (e2 _ (by decide)).trans O25
  replace O26 := (e2 _ (by decide)).trans O26
  replace O27 := (e2 _ (by decide)).trans O27
  replace O28 := n2_0
  replace hV : ∀ j, j < 8 → h_2 (j + 4) = some (wB (j + 4) (_ )) := fun j hj => (e2 _ (by omega)).trans (hV j hj)
  obtain rfl : v_1 = v_2 := ev1.symm.trans ev2
  refine G_icmp_eq 1755 1730 dL_law_1727 (by decide) rfl (fun _ => ?_) (fun z => absurd rfl z)
  exact kk _ ⟨_, _, _, _, _, _, _, _, _, _, _, _, _, _, _, _, _, _, _, _, _, _, _, _, _, _, _, _, _, _, ⟨O0, O1, O2, O3, hV, O12, O13, O14, O15, O16, O17, O18, O19, O20, O21, O22, O23, O24, O25, O26, O27, O28⟩, (ok_drop ok (fun _ => a2))⟩
set_option maxHeartbeats 4000000 in
set_option maxRecDepth 100000 in
theorem K_count {G : GX} {X : En} {l : Launch} {nc ns : Nat} (hRc : nc ≤ 600000 ∧ ns ≤ 7302250) {b L : Nat} {xs : Nat → Int32} (lg : LG G X b L xs) {i : Int32} (h1 : vp_in (i + 1) L) (h2 : vp_in (i + 2) L) (h3 : vp_in (i + 3) L) (h4 : vp_in (i + 4) L) {h : Hp} (hI : Inv h) (kk : ∀ h', Inv h' → Ag G X l mL_law nc ns 1755 (lwL i) [] h') : Ag G X l mL_law nc ns 1732 (lwL i) [] h := by
  obtain ⟨x, g, r, xi, np, kp, V, t12, n12, k12, t15, n15, im, T, z, W, x13, y14, y16, t17, n17, y18, y20, y22, y23, x24, s25, t25, y26, x27, ⟨O0, O1, O2, O3, hV, O12, O13, O14, O15, O16, O17, O18, O19, O20, O21, O22, O23, O24, O25, O26, O27, O28⟩, ok⟩ := hI
  obtain ⟨a1, a2, a3, a4, a5, a6, a7, a8, a9, a10, a11⟩ := id ok
  refine G_aload_n 1733 dL_law_1732 rfl rfl rfl ?_
  refine G_aload_n 1734 dL_law_1733 rfl rfl rfl ?_
  refine G_iload_n 1735 dL_law_1734 rfl rfl rfl ?_
  refine G_iconst 1736 1 dL_law_1735 rfl (by decide) ?_
  refine G_iadd 1737 dL_law_1736 rfl ?_
  refine G_sld 1738 lg.1 lg.2.1 lg.2.2.1 lg.2.2.2 dL_law_1737 rfl h1 ?_
  refine G_callVI 1741 (S_X9_count X l O0 O1 a1 O12 O15 O3 O25 O26 (v := (xs (i + 1).toNatClampNeg))) dL_law_1738 rfl kX9_count lk_L_224 rfl O0 (by decide) hRc rfl (Nat.le_of_ble_eq_true rfl) (fun v_1 h_1 q_1 => ?_)
  obtain ⟨ev1, z26_1, n1_0, e1⟩ := q_1
  replace O0 := (e1 _ (by decide)).trans O0
  replace O1 := (e1 _ (by decide)).trans O1
  replace O2 := (e1 _ (by decide)).trans O2
  replace O3 := (e1 _ (by decide)).trans O3
  replace O12 := (e1 _ (by decide)).trans O12
  replace O13 := (e1 _ (by decide)).trans O13
  replace O14 := (e1 _ (by decide)).trans O14
  replace O15 := (e1 _ (by decide)).trans O15
  replace O16 := (e1 _ (by decide)).trans O16
  replace O17 := (e1 _ (by decide)).trans O17
  replace O18 := (e1 _ (by decide)).trans O18
  replace O19 := (e1 _ (by decide)).trans O19
  replace O20 := (e1 _ (by decide)).trans O20
  replace O21 := (e1 _ (by decide)).trans O21
  replace O22 := (e1 _ (by decide)).trans O22
  replace O23 := (e1 _ (by decide)).trans O23
  replace O24 := (e1 _ (by decide)).trans O24
  replace O25 := (e1 _ (by decide)).trans O25
  replace O26 := n1_0
  replace O27 := (e1 _ (by decide)).trans O27
  replace O28 := (e1 _ (by decide)).trans O28
  replace hV : ∀ j, j < 8 → h_1 (j + 4) = some (wB (j + 4) (_ )) := fun j hj => (e1 _ (by omega)).trans (hV j hj)
  refine G_aload_n 1742 dL_law_1741 rfl rfl rfl ?_
  refine G_aload_n 1743 dL_law_1742 rfl rfl rfl ?_
  refine G_iload_n 1744 dL_law_1743 rfl rfl rfl ?_
  refine G_iconst 1745 1 dL_law_1744 rfl (by decide) ?_
  refine G_iadd 1746 dL_law_1745 rfl ?_
  refine G_sld 1747 lg.1 lg.2.1 lg.2.2.1 lg.2.2.2 dL_law_1746 rfl h1 ?_
  refine G_callVI 1750 (S_X10_count X l O28 a1 (v := (xs (i + 1).toNatClampNeg))) dL_law_1747 rfl kX10_count lk_L_227 rfl O28 (by decide) hRc rfl (Nat.le_of_ble_eq_true rfl) (fun v_2 h_2 q_2 => ?_)
  obtain ⟨ev2, z1_2, n2_0, e2⟩ := q_2
  replace O0 := (e2 _ (by decide)).trans O0
  replace O1 := (e2 _ (by decide)).trans O1
  replace O2 := (e2 _ (by decide)).trans O2
  replace O3 := (e2 _ (by decide)).trans O3
  replace O12 := (e2 _ (by decide)).trans O12
  replace O13 := (e2 _ (by decide)).trans O13
  replace O14 := (e2 _ (by decide)).trans O14
  replace O15 := (e2 _ (by decide)).trans O15
  replace O16 := (e2 _ (by decide)).trans O16
  replace O17 := (e2 _ (by decide)).trans O17
  replace O18 := (e2 _ (by decide)).trans O18
  replace O19 := (e2 _ (by decide)).trans O19
  replace O20 := (e2 _ (by decide)).trans O20
  replace O21 := (e2 _ (by decide)).trans O21
  replace O22 := (e2 _ (by decide)).trans O22
  replace O23 := (e2 _ (by decide)).trans O23
  replace O24 := (e2 _ (by decide)).trans O24
  replace O25 := (e2 _ (by decide)).trans O25
  replace O26 := (e2 _ (by decide)).trans O26
  replace O27 := (e2 _ (by decide)).trans O27
  replace O28 := n2_0
  replace hV : ∀ j, j < 8 → h_2 (j + 4) = some (wB (j + 4) (_ )) := fun j hj => (e2 _ (by omega)).trans (hV j hj)
  obtain rfl : v_1 = v_2 := ev1.symm.trans ev2
  refine G_icmp_eq 1755 1753 dL_law_1750 (by decide) rfl (fun _ => ?_) (fun z => absurd rfl z)
  exact kk _ ⟨_, _, _, _, _, _, _, _, _, _, _, _, _, _, _, _, _, _, _, _, _, _, _, _, _, _, _, _, _, _, ⟨O0, O1, O2, O3, hV, O12, O13, O14, O15, O16, O17, O18, O19, O20, O21, O22, O23, O24, O25, O26, O27, O28⟩, ok⟩
