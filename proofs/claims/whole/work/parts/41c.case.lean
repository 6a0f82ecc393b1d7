set_option maxHeartbeats 4000000 in
set_option maxRecDepth 100000 in
theorem K_onTray {G : GX} {X : En} {l : Launch} {nc ns : Nat} (hRc : nc ≤ 600000 ∧ ns ≤ 7302250) {b L : Nat} {xs : Nat → Int32} (lg : LG G X b L xs) {i : Int32} (h1 : vp_in (i + 1) L) (h2 : vp_in (i + 2) L) (h3 : vp_in (i + 3) L) (h4 : vp_in (i + 4) L) {h : Hp} (hI : Inv h) (kk : ∀ h', Inv h' → Ag G X l mL_law nc ns 1755 (lwL i) [] h') : Ag G X l mL_law nc ns 1015 (lwL i) [] h := by
  obtain ⟨x, g, r, xi, np, kp, V, t12, n12, k12, t15, n15, im, T, z, W, x13, y14, y16, t17, n17, y18, y20, y22, y23, x24, s25, t25, y26, x27, ⟨O0, O1, O2, O3, hV, O12, O13, O14, O15, O16, O17, O18, O19, O20, O21, O22, O23, O24, O25, O26, O27, O28⟩, ok⟩ := hI
  obtain ⟨a1, a2, a3, a4, a5, a6, a7, a8, a9, a10, a11⟩ := id ok
  refine G_aload_n 1016 dL_law_1015 rfl rfl rfl ?_
  refine G_aload_n 1017 dL_law_1016 rfl rfl rfl ?_
  refine G_iload_n 1018 dL_law_1017 rfl rfl rfl ?_
  refine G_iconst 1019 1 dL_law_1018 rfl (by decide) ?_
  refine G_iadd 1020 dL_law_1019 rfl ?_
  refine G_sld 1021 lg.1 lg.2.1 lg.2.2.1 lg.2.2.2 dL_law_1020 rfl h1 ?_
  refine G_callVI 1024 (S_X9_onTray X l O0 O1 a1 O25 O26 (p := (xs (i + 1).toNatClampNeg))) dL_law_1021 rfl kX9_onTray lk_L_122 rfl O0 (by decide) hRc rfl (Nat.le_of_ble_eq_true rfl) (fun v_1 h_1 q_1 => ?_)
  obtain ⟨ev1, z26_1, n1_0, n1_1, e1⟩ := q_1
  replace O0 := n1_0
  replace O1 := (e1 _ (by decide) (by decide)).trans O1
  replace O2 := (e1 _ (by decide) (by decide)).trans O2
  replace O3 := (e1 _ (by decide) (by decide)).trans O3
  replace O12 := (e1 _ (by decide) (by decide)).trans O12
  replace O13 := (e1 _ (by decide) (by decide)).trans O13
  replace O14 := (e1 _ (by decide) (by decide)).trans O14
  replace O15 := (e1 _ (by decide) (by decide)).trans O15
  replace O16 := (e1 _ (by decide) (by decide)).trans O16
  replace O17 := (e1 _ (by decide) (by decide)).trans O17
  replace O18 := (e1 _ (by decide) (by decide)).trans O18
  replace O19 := (e1 _ (by decide) (by decide)).trans O19
  replace O20 := (e1 _ (by decide) (by decide)).trans O20
  replace O21 := (e1 _ (by decide) (by decide)).trans O21
  replace O22 := (e1 _ (by decide) (by decide)).trans O22
  replace O23 := (e1 _ (by decide) (by decide)).trans O23
  replace O24 := (e1 _ (by decide) (by decide)).trans O24
  replace O25 := (e1 _ (by decide) (by decide)).trans O25
  replace O26 := n1_1
  replace O27 := (e1 _ (by decide) (by decide)).trans O27
  replace O28 := (e1 _ (by decide) (by decide)).trans O28
  replace hV : ∀ j, j < 8 → h_1 (j + 4) = some (wB (j + 4) (_ )) := fun j hj => (e1 _ (by omega) (by omega)).trans (hV j hj)
  refine G_aload_n 1025 dL_law_1024 rfl rfl rfl ?_
  refine G_aload_n 1026 dL_law_1025 rfl rfl rfl ?_
  refine G_iload_n 1027 dL_law_1026 rfl rfl rfl ?_
  refine G_iconst 1028 1 dL_law_1027 rfl (by decide) ?_
  refine G_iadd 1029 dL_law_1028 rfl ?_
  refine G_sld 1030 lg.1 lg.2.1 lg.2.2.1 lg.2.2.2 dL_law_1029 rfl h1 ?_
  refine G_callVI 1033 (S_X10_onTray X l O28 a1 (p := (xs (i + 1).toNatClampNeg))) dL_law_1030 rfl kX10_onTray lk_L_125 rfl O28 (by decide) hRc rfl (Nat.le_of_ble_eq_true rfl) (fun v_2 h_2 q_2 => ?_)
  obtain ⟨ev2, z1_2, n2_0, e2⟩ := q_2
  replace O0 := (e2 _ (by decide)).trans O0
  replace O1 := (e2 _ (by decide)).trans O1
  replace O2 := (e2 _ (by decide)).trans O2
  replace O3 := (e2 _ (by decide)).trans O3
  replace O12 := (e2 _ (by decide)).trans O12
  replace O13 := (e2 _ (by decide)).trans O13
  replace O14 := (e2 _ (by decide)).trans O14
  replace O15 := (e2 _ (by decide)).trans O15
  replace O16 := (e2 _ (by decide)).trans O16
  replace O17 := (e2 _ (by decide)).trans O17
  replace O18 := (e2 _ (by decide)).trans O18
  replace O19 := (e2 _ (by decide)).trans O19
  replace O20 := (e2 _ (by decide)).trans O20
  replace O21 := (e2 _ (by decide)).trans O21
  replace O22 := (e2 _ (by decide)).trans O22
  replace O23 := (e2 _ (by decide)).trans O23
  replace O24 := (e2 _ (by decide)).trans O24
  replace O25 := (e2 _ (by decide)).trans O25
  replace O26 := (e2 _ (by decide)).trans O26
  replace O27 := (e2 _ (by decide)).trans O27
  replace O28 := n2_0
  replace hV : ∀ j, j < 8 → h_2 (j + 4) = some (wB (j + 4) (_ )) := fun j hj => (e2 _ (by omega)).trans (hV j hj)
  obtain rfl : v_1 = v_2 := ev1.symm.trans ev2
  refine G_icmp_eq 1755 1036 dL_law_1033 (by decide) rfl (fun _ => ?_) (fun z => absurd rfl z)
  exact kk _ ⟨_, _, _, _, _, _, _, _, _, _, _, _, _, _, _, _, _, _, _, _, _, _, _, _, _, _, _, _, _, _, ⟨O0, O1, O2, O3, hV, O12, O13, O14, O15, O16, O17, O18, O19, O20, O21, O22, O23, O24, O25, O26, O27, O28⟩, ok⟩
set_option maxHeartbeats 4000000 in
set_option maxRecDepth 100000 in
theorem K_guard {G : GX} {X : En} {l : Launch} {nc ns : Nat} (hRc : nc ≤ 600000 ∧ ns ≤ 7302250) {b L : Nat} {xs : Nat → Int32} (lg : LG G X b L xs) {i : Int32} (h1 : vp_in (i + 1) L) (h2 : vp_in (i + 2) L) (h3 : vp_in (i + 3) L) (h4 : vp_in (i + 4) L) {h : Hp} (hI : Inv h) (kk : ∀ h', Inv h' → Ag G X l mL_law nc ns 1755 (lwL i) [] h') : Ag G X l mL_law nc ns 1038 (lwL i) [] h := by
  obtain ⟨x, g, r, xi, np, kp, V, t12, n12, k12, t15, n15, im, T, z, W, x13, y14, y16, t17, n17, y18, y20, y22, y23, x24, s25, t25, y26, x27, ⟨O0, O1, O2, O3, hV, O12, O13, O14, O15, O16, O17, O18, O19, O20, O21, O22, O23, O24, O25, O26, O27, O28⟩, ok⟩ := hI
  obtain ⟨a1, a2, a3, a4, a5, a6, a7, a8, a9, a10, a11⟩ := id ok
  refine G_aload_n 1039 dL_law_1038 rfl rfl rfl ?_
  refine G_aload_n 1040 dL_law_1039 rfl rfl rfl ?_
  refine G_iload_n 1041 dL_law_1040 rfl rfl rfl ?_
  refine G_iconst 1042 1 dL_law_1041 rfl (by decide) ?_
  refine G_iadd 1043 dL_law_1042 rfl ?_
  refine G_sld 1044 lg.1 lg.2.1 lg.2.2.1 lg.2.2.2 dL_law_1043 rfl h1 ?_
  refine G_aload_n 1045 dL_law_1044 rfl rfl rfl ?_
  refine G_iload_n 1046 dL_law_1045 rfl rfl rfl ?_
  refine G_iconst 1047 2 dL_law_1046 rfl (by decide) ?_
  refine G_iadd 1048 dL_law_1047 rfl ?_
  refine G_sld 1049 lg.1 lg.2.1 lg.2.2.1 lg.2.2.2 dL_law_1048 rfl h2 ?_
  refine G_callVI 1052 (S_X9_guard X l O0 O1 a1 O21 O22 (p := (xs (i + 1).toNatClampNeg)) (v := (xs (i + 2).toNatClampNeg))) dL_law_1049 rfl kX9_guard lk_L_126 rfl O0 (by decide) hRc rfl (Nat.le_of_ble_eq_true rfl) (fun v_1 h_1 q_1 => ?_)
  obtain ⟨ev1, z22_1, n1_0, n1_1, e1⟩ := q_1
  replace O0 := n1_0
  replace O1 := (e1 _ (by decide) (by decide)).trans O1
  replace O2 := (e1 _ (by decide) (by decide)).trans O2
  replace O3 := (e1 _ (by decide) (by decide)).trans O3
  replace O12 := (e1 _ (by decide) (by decide)).trans O12
  replace O13 := (e1 _ (by decide) (by decide)).trans O13
  replace O14 := (e1 _ (by decide) (by decide)).trans O14
  replace O15 := (e1 _ (by decide) (by decide)).trans O15
  replace O16 := (e1 _ (by decide) (by decide)).trans O16
  replace O17 := (e1 _ (by decide) (by decide)).trans O17
  replace O18 := (e1 _ (by decide) (by decide)).trans O18
  replace O19 := (e1 _ (by decide) (by decide)).trans O19
  replace O20 := (e1 _ (by decide) (by decide)).trans O20
  replace O21 := (e1 _ (by decide) (by decide)).trans O21
  replace O22 := n1_1
  replace O23 := (e1 _ (by decide) (by decide)).trans O23
  replace O24 := (e1 _ (by decide) (by decide)).trans O24
  replace O25 := (e1 _ (by decide) (by decide)).trans O25
  replace O26 := (e1 _ (by decide) (by decide)).trans O26
  replace O27 := (e1 _ (by decide) (by decide)).trans O27
  replace O28 := (e1 _ (by decide) (by decide)).trans O28
  replace hV : ∀ j, j < 8 → h_1 (j + 4) = some (wB (j + 4) (_ )) := fun j hj => (e1 _ (by omega) (by omega)).trans (hV j hj)
  refine G_aload_n 1053 dL_law_1052 rfl rfl rfl ?_
  refine G_aload_n 1054 dL_law_1053 rfl rfl rfl ?_
  refine G_iload_n 1055 dL_law_1054 rfl rfl rfl ?_
  refine G_iconst 1056 1 dL_law_1055 rfl (by decide) ?_
  refine G_iadd 1057 dL_law_1056 rfl ?_
  refine G_sld 1058 lg.1 lg.2.1 lg.2.2.1 lg.2.2.2 dL_law_1057 rfl h1 ?_
  refine G_aload_n 1059 dL_law_1058 rfl rfl rfl ?_
  refine G_iload_n 1060 dL_law_1059 rfl rfl rfl ?_
  refine G_iconst 1061 2 dL_law_1060 rfl (by decide) ?_
  refine G_iadd 1062 dL_law_1061 rfl ?_
  refine G_sld 1063 lg.1 lg.2.1 lg.2.2.1 lg.2.2.2 dL_law_1062 rfl h2 ?_
  refine G_callVI 1066 (S_X10_guard X l O28 a1 (p := (xs (i + 1).toNatClampNeg)) (v := (xs (i + 2).toNatClampNeg))) dL_law_1063 rfl kX10_guard lk_L_129 rfl O28 (by decide) hRc rfl (Nat.le_of_ble_eq_true rfl) (fun v_2 h_2 q_2 => ?_)
  obtain ⟨ev2, z1_2, n2_0, e2⟩ := q_2
  replace O0 := (e2 _ (by decide)).trans O0
  replace O1 := (e2 _ (by decide)).trans O1
  replace O2 := (e2 _ (by decide)).trans O2
  replace O3 := (e2 _ (by decide)).trans O3
  replace O12 := (e2 _ (by decide)).trans O12
  replace O13 := (e2 _ (by decide)).trans O13
  replace O14 := (e2 _ (by decide)).trans O14
  replace O15 := (e2 _ (by decide)).trans O15
  replace O16 := (e2 _ (by decide)).trans O16
  replace O17 := (e2 _ (by decide)).trans O17
  replace O18 := (e2 _ (by decide)).trans O18
  replace O19 := (e2 _ (by decide)).trans O19
  replace O20 := (e2 _ (by decide)).trans O20
  replace O21 := (e2 _ (by decide)).trans O21
  replace O22 := (e2 _ (by decide)).trans O22
  replace O23 := (e2 _ (by decide)).trans O23
  replace O24 := (e2 _ (by decide)).trans O24
  replace O25 := (e2 _ (by decide)).trans O25
  replace O26 := (e2 _ (by decide)).trans O26
  replace O27 := (e2 _ (by decide)).trans O27
  replace O28 := n2_0
  replace hV : ∀ j, j < 8 → h_2 (j + 4) = some (wB (j + 4) (_ )) := fun j hj => (e2 _ (by omega)).trans (hV j hj)
  obtain rfl : v_1 = v_2 := ev1.symm.trans ev2
  refine G_icmp_eq 1755 1069 dL_law_1066 (by decide) rfl (fun _ => ?_) (fun z => absurd rfl z)
  exact kk _ ⟨_, _, _, _, _, _, _, _, _, _, _, _, _, _, _, _, _, _, _, _, _, _, _, _, _, _, _, _, _, _, ⟨O0, O1, O2, O3, hV, O12, O13, O14, O15, O16, O17, O18, O19, O20, O21, O22, O23, O24, O25, O26, O27, O28⟩, ok⟩
set_option maxHeartbeats 4000000 in
set_option maxRecDepth 100000 in
theorem K_rounds {G : GX} {X : En} {l : Launch} {nc ns : Nat} (hRc : nc ≤ 600000 ∧ ns ≤ 7302250) {b L : Nat} {xs : Nat → Int32} (lg : LG G X b L xs) {i : Int32} (h1 : vp_in (i + 1) L) (h2 : vp_in (i + 2) L) (h3 : vp_in (i + 3) L) (h4 : vp_in (i + 4) L) {h : Hp} (hI : Inv h) (kk : ∀ h', Inv h' → Ag G X l mL_law nc ns 1755 (lwL i) [] h') : Ag G X l mL_law nc ns 1071 (lwL i) [] h := by
  obtain ⟨x, g, r, xi, np, kp, V, t12, n12, k12, t15, n15, im, T, z, W, x13, y14, y16, t17, n17, y18, y20, y22, y23, x24, s25, t25, y26, x27, ⟨O0, O1, O2, O3, hV, O12, O13, O14, O15, O16, O17, O18, O19, O20, O21, O22, O23, O24, O25, O26, O27, O28⟩, ok⟩ := hI
  obtain ⟨a1, a2, a3, a4, a5, a6, a7, a8, a9, a10, a11⟩ := id ok
  refine G_aload_n 1072 dL_law_1071 rfl rfl rfl ?_
  refine G_callVI 1075 (S_X9_rounds X l O0 O1 a1 O25 O26 O27) dL_law_1072 rfl kX9_rounds lk_L_130 rfl O0 (by decide) hRc rfl (Nat.le_of_ble_eq_true rfl) (fun v_1 h_1 q_1 => ?_)
  obtain ⟨ev1, s2_1, y2_1, x3_1, n1_0, n1_1, n1_2, e1⟩ := q_1
  replace O0 := (e1 _ (by decide) (by decide) (by decide)).trans O0
  replace O1 := (e1 _ (by decide) (by decide) (by decide)).trans O1
  replace O2 := (e1 _ (by decide) (by decide) (by decide)).trans O2
  replace O3 := (e1 _ (by decide) (by decide) (by decide)).trans O3
  replace O12 := (e1 _ (by decide) (by decide) (by decide)).trans O12
  replace O13 := (e1 _ (by decide) (by decide) (by decide)).trans O13
  replace O14 := (e1 _ (by decide) (by decide) (by decide)).trans O14
  replace O15 := (e1 _ (by decide) (by decide) (by decide)).trans O15
  replace O16 := (e1 _ (by decide) (by decide) (by decide)).trans O16
  replace O17 := (e1 _ (by decide) (by decide) (by decide)).trans O17
  replace O18 := (e1 _ (by decide) (by decide) (by decide)).trans O18
  replace O19 := (e1 _ (by decide) (by decide) (by decide)).trans O19
  replace O20 := (e1 _ (by decide) (by decide) (by decide)).trans O20
  replace O21 := (e1 _ (by decide) (by decide) (by decide)).trans O21
  replace O22 := (e1 _ (by decide) (by decide) (by decide)).trans O22
  replace O23 := (e1 _ (by decide) (by decide) (by decide)).trans O23
  replace O24 := (e1 _ (by decide) (by decide) (by decide)).trans O24
  replace O25 := n1_0
  replace O26 := n1_1
  replace O27 := n1_2
  replace O28 := (e1 _ (by decide) (by decide) (by decide)).trans O28
  replace hV : ∀ j, j < 8 → h_1 (j + 4) = some (wB (j + 4) (_ )) := fun j hj => (e1 _ (by omega) (by omega) (by omega)).trans (hV j hj)
  refine G_aload_n 1076 dL_law_1075 rfl rfl rfl ?_
  refine G_callVI 1079 (S_X10_rounds X l O28 a1) dL_law_1076 rfl kX10_rounds lk_L_133 rfl O28 (by decide) hRc rfl (Nat.le_of_ble_eq_true rfl) (fun v_2 h_2 q_2 => ?_)
  obtain ⟨ev2, z1_2, n2_0, e2⟩ := q_2
  replace O0 := (e2 _ (by decide)).trans O0
  replace O1 := (e2 _ (by decide)).trans O1
  replace O2 := (e2 _ (by decide)).trans O2
  replace O3 := (e2 _ (by decide)).trans O3
  replace O12 := (e2 _ (by decide)).trans O12
  replace O13 := (e2 _ (by decide)).trans O13
  replace O14 := (e2 _ (by decide)).trans O14
  replace O15 := (e2 _ (by decide)).trans O15
  replace O16 := (e2 _ (by decide)).trans O16
  replace O17 := (e2 _ (by decide)).trans O17
  replace O18 := (e2 _ (by decide)).trans O18
  replace O19 := (e2 _ (by decide)).trans O19
  replace O20 := (e2 _ (by decide)).trans O20
  replace O21 := (e2 _ (by decide)).trans O21
  replace O22 := (e2 _ (by decide)).trans O22
  replace O23 := (e2 _ (by decide)).trans O23
  replace O24 := (e2 _ (by decide)).trans O24
  replace O25 := (e2 _ (by decide)).trans O25
  replace O26 := (e2 _ (by decide)).trans O26
  replace O27 := (e2 _ (by decide)).trans O27
  replace O28 := n2_0
  replace hV : ∀ j, j < 8 → h_2 (j + 4) = some (wB (j + 4) (_ )) := fun j hj => (e2 _ (by omega)).trans (hV j hj)
  obtain rfl : v_1 = v_2 := ev1.symm.trans ev2
  refine G_icmp_eq 1755 1082 dL_law_1079 (by decide) rfl (fun _ => ?_) (fun z => absurd rfl z)
  exact kk _ ⟨_, _, _, _, _, _, _, _, _, _, _, _, _, _, _, _, _, _, _, _, _, _, _, _, _, _, _, _, _, _, ⟨O0, O1, O2, O3, hV, O12, O13, O14, O15, O16, O17, O18, O19, O20, O21, O22, O23, O24, O25, O26, O27, O28⟩, ok⟩
set_option maxHeartbeats 4000000 in
set_option maxRecDepth 100000 in
theorem K_chance {G : GX} {X : En} {l : Launch} {nc ns : Nat} (hRc : nc ≤ 600000 ∧ ns ≤ 7302250) {b L : Nat} {xs : Nat → Int32} (lg : LG G X b L xs) {i : Int32} (h1 : vp_in (i + 1) L) (h2 : vp_in (i + 2) L) (h3 : vp_in (i + 3) L) (h4 : vp_in (i + 4) L) {h : Hp} (hI : Inv h) (kk : ∀ h', Inv h' → Ag G X l mL_law nc ns 1755 (lwL i) [] h') : Ag G X l mL_law nc ns 1084 (lwL i) [] h := by
  obtain ⟨x, g, r, xi, np, kp, V, t12, n12, k12, t15, n15, im, T, z, W, x13, y14, y16, t17, n17, y18, y20, y22, y23, x24, s25, t25, y26, x27, ⟨O0, O1, O2, O3, hV, O12, O13, O14, O15, O16, O17, O18, O19, O20, O21, O22, O23, O24, O25, O26, O27, O28⟩, ok⟩ := hI
  obtain ⟨a1, a2, a3, a4, a5, a6, a7, a8, a9, a10, a11⟩ := id ok
  refine G_aload_n 1085 dL_law_1084 rfl rfl rfl ?_
  refine G_aload_n 1086 dL_law_1085 rfl rfl rfl ?_
  refine G_iload_n 1087 dL_law_1086 rfl rfl rfl ?_
  refine G_iconst 1088 1 dL_law_1087 rfl (by decide) ?_
  refine G_iadd 1089 dL_law_1088 rfl ?_
  refine G_sld 1090 lg.1 lg.2.1 lg.2.2.1 lg.2.2.2 dL_law_1089 rfl h1 ?_
  refine G_aload_n 1091 dL_law_1090 rfl rfl rfl ?_
  refine G_iload_n 1092 dL_law_1091 rfl rfl rfl ?_
  refine G_iconst 1093 2 dL_law_1092 rfl (by decide) ?_
  refine G_iadd 1094 dL_law_1093 rfl ?_
  refine G_sld 1095 lg.1 lg.2.1 lg.2.2.1 lg.2.2.2 dL_law_1094 rfl h2 ?_
  refine G_aload_n 1096 dL_law_1095 rfl rfl rfl ?_
  refine G_iload_n 1097 dL_law_1096 rfl rfl rfl ?_
  refine G_iconst 1098 3 dL_law_1097 rfl (by decide) ?_
  refine G_iadd 1099 dL_law_1098 rfl ?_
  refine G_sld 1100 lg.1 lg.2.1 lg.2.2.1 lg.2.2.2 dL_law_1099 rfl h3 ?_
  refine G_aload_n 1101 dL_law_1100 rfl rfl rfl ?_
  refine G_iload_n 1102 dL_law_1101 rfl rfl rfl ?_
  refine G_iconst 1103 4 dL_law_1102 rfl (by decide) ?_
  refine G_iadd 1104 dL_law_1103 rfl ?_
  refine G_sld 1105 lg.1 lg.2.1 lg.2.2.1 lg.2.2.2 dL_law_1104 rfl h4 ?_
  refine G_callVL 1108 (S_X9_chance X l O0 O1 a1 O19 O20 (p := (xs (i + 1).toNatClampNeg)) (l0 := (xs (i + 2).toNatClampNeg)) (t := (xs (i + 3).toNatClampNeg)) (v := (xs (i + 4).toNatClampNeg))) dL_law_1105 rfl kX9_chance lk_L_134 rfl O0 (by decide) hRc rfl (Nat.le_of_ble_eq_true rfl) (fun v_1 h_1 q_1 => ?_)
  obtain ⟨ev1, z20_1, n1_0, n1_1, e1⟩ := q_1
  replace O0 := n1_0
  replace O1 := (e1 _ (by decide) (by decide)).trans O1
  replace O2 := (e1 _ (by decide) (by decide)).trans O2
  replace O3 := (e1 _ (by decide) (by decide)).trans O3
  replace O12 := (e1 _ (by decide) (by decide)).trans O12
  replace O13 := (e1 _ (by decide) (by decide)).trans O13
  replace O14 := (e1 _ (by decide) (by decide)).trans O14
  replace O15 := (e1 _ (by decide) (by decide)).trans O15
  replace O16 := (e1 _ (by decide) (by decide)).trans O16
  replace O17 := (e1 _ (by decide) (by decide)).trans O17
  replace O18 := (e1 _ (by decide) (by decide)).trans O18
  replace O19 := (e1 _ (by decide) (by decide)).trans O19
  replace O20 := n1_1
  replace O21 := (e1 _ (by decide) (by decide)).trans O21
  replace O22 := (e1 _ (by decide) (by decide)).trans O22
  replace O23 := (e1 _ (by decide) (by decide)).trans O23
  replace O24 := (e1 _ (by decide) (by decide)).trans O24
  replace O25 := (e1 _ (by decide) (by decide)).trans O25
  replace O26 := (e1 _ (by decide) (by decide)).trans O26
  replace O27 := (e1 _ (by decide) (by decide)).trans O27
  replace O28 := (e1 _ (by decide) (by decide)).trans O28
  replace hV : ∀ j, j < 8 → h_1 (j + 4) = some (wB (j + 4) (_ )) := fun j hj => (e1 _ (by omega) (by omega)).trans (hV j hj)
  refine G_aload_n 1109 dL_law_1108 rfl rfl rfl ?_
  refine G_aload_n 1110 dL_law_1109 rfl rfl rfl ?_
  refine G_iload_n 1111 dL_law_1110 rfl rfl rfl ?_
  refine G_iconst 1112 1 dL_law_1111 rfl (by decide) ?_
  refine G_iadd 1113 dL_law_1112 rfl ?_
  refine G_sld 1114 lg.1 lg.2.1 lg.2.2.1 lg.2.2.2 dL_law_1113 rfl h1 ?_
  refine G_aload_n 1115 dL_law_1114 rfl rfl rfl ?_
  refine G_iload_n 1116 dL_law_1115 rfl rfl rfl ?_
  refine G_iconst 1117 2 dL_law_1116 rfl (by decide) ?_
  refine G_iadd 1118 dL_law_1117 rfl ?_
  refine G_sld 1119 lg.1 lg.2.1 lg.2.2.1 lg.2.2.2 dL_law_1118 rfl h2 ?_
  refine G_aload_n 1120 dL_law_1119 rfl rfl rfl ?_
  refine G_iload_n 1121 dL_law_1120 rfl rfl rfl ?_
  refine G_iconst 1122 3 dL_law_1121 rfl (by decide) ?_
  refine G_iadd 1123 dL_law_1122 rfl ?_
  refine G_sld 1124 lg.1 lg.2.1 lg.2.2.1 lg.2.2.2 dL_law_1123 rfl h3 ?_
  refine G_aload_n 1125 dL_law_1124 rfl rfl rfl ?_
  refine G_iload_n 1126 dL_law_1125 rfl rfl rfl ?_
  refine G_iconst 1127 4 dL_law_1126 rfl (by decide) ?_
  refine G_iadd 1128 dL_law_1127 rfl ?_
  refine G_sld 1129 lg.1 lg.2.1 lg.2.2.1 lg.2.2.2 dL_law_1128 rfl h4 ?_
  refine G_callVL 1132 (S_X10_chance X l O28 a1 (p := (xs (i + 1).toNatClampNeg)) (l0 := (xs (i + 2).toNatClampNeg)) (t := (xs (i + 3).toNatClampNeg)) (v := (xs (i + 4).toNatClampNeg))) dL_law_1129 rfl kX10_chance lk_L_138 rfl O28 (by decide) hRc rfl (Nat.le_of_ble_eq_true rfl) (fun v_2 h_2 q_2 => ?_)
  obtain ⟨ev2, z1_2, n2_0, e2⟩ := q_2
  replace O0 := (e2 _ (by decide)).trans O0
  replace O1 := (e2 _ (by decide)).trans O1
  replace O2 := (e2 _ (by decide)).trans O2
  replace O3 := (e2 _ (by decide)).trans O3
  replace O12 := (e2 _ (by decide)).trans O12
  replace O13 := (e2 _ (by decide)).trans O13
  replace O14 := (e2 _ (by decide)).trans O14
  replace O15 := (e2 _ (by decide)).trans O15
  replace O16 := (e2 _ (by decide)).trans O16
  replace O17 := (e2 _ (by decide)).trans O17
  replace O18 := (e2 _ (by decide)).trans O18
  replace O19 := (e2 _ (by decide)).trans O19
  replace O20 := (e2 _ (by decide)).trans O20
  replace O21 := (e2 _ (by decide)).trans O21
  replace O22 := (e2 _ (by decide)).trans O22
  replace O23 := (e2 _ (by decide)).trans O23
  replace O24 := (e2 _ (by decide)).trans O24
  replace O25 := (e2 _ (by decide)).trans O25
  replace O26 := (e2 _ (by decide)).trans O26
  replace O27 := (e2 _ (by decide)).trans O27
  replace O28 := n2_0
  replace hV : ∀ j, j < 8 → h_2 (j + 4) = some (wB (j + 4) (_ )) := fun j hj => (e2 _ (by omega)).trans (hV j hj)
  obtain rfl : v_1 = v_2 := ev1.symm.trans ev2
  refine G_lcmp 1133 dL_law_1132 rfl ?_
  refine G_if_eq 1755 1136 dL_law_1133 (by decide) rfl (fun _ => ?_) (fun z => absurd (lg_same _) z)
  exact kk _ ⟨_, _, _, _, _, _, _, _, _, _, _, _, _, _, _, _, _, _, _, _, _, _, _, _, _, _, _, _, _, _, ⟨O0, O1, O2, O3, hV, O12, O13, O14, O15, O16, O17, O18, O19, O20, O21, O22, O23, O24, O25, O26, O27, O28⟩, ok⟩
set_option maxHeartbeats 4000000 in
set_option maxRecDepth 100000 in
theorem K_idle {G : GX} {X : En} {l : Launch} {nc ns : Nat} (hRc : nc ≤ 600000 ∧ ns ≤ 7302250) {b L : Nat} {xs : Nat → Int32} (lg : LG G X b L xs) {i : Int32} (h1 : vp_in (i + 1) L) (h2 : vp_in (i + 2) L) (h3 : vp_in (i + 3) L) (h4 : vp_in (i + 4) L) {h : Hp} (hI : Inv h) (kk : ∀ h', Inv h' → Ag G X l mL_law nc ns 1755 (lwL i) [] h') : Ag G X l mL_law nc ns 1138 (lwL i) [] h := by
  obtain ⟨x, g, r, xi, np, kp, V, t12, n12, k12, t15, n15, im, T, z, W, x13, y14, y16, t17, n17, y18, y20, y22, y23, x24, s25, t25, y26, x27, ⟨O0, O1, O2, O3, hV, O12, O13, O14, O15, O16, O17, O18, O19, O20, O21, O22, O23, O24, O25, O26, O27, O28⟩, ok⟩ := hI
  obtain ⟨a1, a2, a3, a4, a5, a6, a7, a8, a9, a10, a11⟩ := id ok
  refine G_aload_n 1139 dL_law_1138 rfl rfl rfl ?_
  refine G_aload_n 1140 dL_law_1139 rfl rfl rfl ?_
  refine G_iload_n 1141 dL_law_1140 rfl rfl rfl ?_
  refine G_iconst 1142 1 dL_law_1141 rfl (by decide) ?_
  refine G_iadd 1143 dL_law_1142 rfl ?_
  refine G_sld 1144 lg.1 lg.2.1 lg.2.2.1 lg.2.2.2 dL_law_1143 rfl h1 ?_
  refine G_aload_n 1145 dL_law_1144 rfl rfl rfl ?_
  refine G_iload_n 1146 dL_law_1145 rfl rfl rfl ?_
  refine G_iconst 1147 2 dL_law_1146 rfl (by decide) ?_
  refine G_iadd 1148 dL_law_1147 rfl ?_
  refine G_sld 1149 lg.1 lg.2.1 lg.2.2.1 lg.2.2.2 dL_law_1148 rfl h2 ?_
  refine G_callVI 1152 (S_X9_idle X l O0 O1 a1 O16 (p := (xs (i + 1).toNatClampNeg)) (v := (xs (i + 2).toNatClampNeg))) dL_law_1149 rfl kX9_idle lk_L_139 rfl O0 (by decide) hRc rfl (Nat.le_of_ble_eq_true rfl) (fun v_1 h_1 q_1 => ?_)
  obtain ⟨ev1, z16_1, n1_0, n1_1, e1⟩ := q_1
  replace O0 := n1_0
  replace O1 := (e1 _ (by decide) (by decide)).trans O1
  replace O2 := (e1 _ (by decide) (by decide)).trans O2
  replace O3 := (e1 _ (by decide) (by decide)).trans O3
  replace O12 := (e1 _ (by decide) (by decide)).trans O12
  replace O13 := (e1 _ (by decide) (by decide)).trans O13
  replace O14 := (e1 _ (by decide) (by decide)).trans O14
  replace O15 := (e1 _ (by decide) (by decide)).trans O15
  replace O16 := n1_1
  replace O17 := (e1 _ (by decide) (by decide)).trans O17
  replace O18 := (e1 _ (by decide) (by decide)).trans O18
  replace O19 := (e1 _ (by decide) (by decide)).trans O19
  replace O20 := (e1 _ (by decide) (by decide)).trans O20
  replace O21 := (e1 _ (by decide) (by decide)).trans O21
  replace O22 := (e1 _ (by decide) (by decide)).trans O22
  replace O23 := (e1 _ (by decide) (by decide)).trans O23
  replace O24 := (e1 _ (by decide) (by decide)).trans O24
  replace O25 := (e1 _ (by decide) (by decide)).trans O25
  replace O26 := (e1 _ (by decide) (by decide)).trans O26
  replace O27 := (e1 _ (by decide) (by decide)).trans O27
  replace O28 := (e1 _ (by decide) (by decide)).trans O28
  replace hV : ∀ j, j < 8 → h_1 (j + 4) = some (wB (j + 4) (_ )) := fun j hj => (e1 _ (by omega) (by omega)).trans (hV j hj)
  refine G_aload_n 1153 dL_law_1152 rfl rfl rfl ?_
  refine G_aload_n 1154 dL_law_1153 rfl rfl rfl ?_
  refine G_iload_n 1155 dL_law_1154 rfl rfl rfl ?_
  refine G_iconst 1156 1 dL_law_1155 rfl (by decide) ?_
  refine G_iadd 1157 dL_law_1156 rfl ?_
  refine G_sld 1158 lg.1 lg.2.1 lg.2.2.1 lg.2.2.2 dL_law_1157 rfl h1 ?_
  refine G_aload_n 1159 dL_law_1158 rfl rfl rfl ?_
  refine G_iload_n 1160 dL_law_1159 rfl rfl rfl ?_
  refine G_iconst 1161 2 dL_law_1160 rfl (by decide) ?_
  refine G_iadd 1162 dL_law_1161 rfl ?_
  refine G_sld 1163 lg.1 lg.2.1 lg.2.2.1 lg.2.2.2 dL_law_1162 rfl h2 ?_
  refine G_callVI 1166 (S_X10_idle X l O28 a1 (p := (xs (i + 1).toNatClampNeg)) (v := (xs (i + 2).toNatClampNeg))) dL_law_1163 rfl kX10_idle lk_L_142 rfl O28 (by decide) hRc rfl (Nat.le_of_ble_eq_true rfl) (fun v_2 h_2 q_2 => ?_)
  obtain ⟨ev2, z1_2, n2_0, e2⟩ := q_2
  replace O0 := (e2 _ (by decide)).trans O0
  replace O1 := (e2 _ (by decide)).trans O1
  replace O2 := (e2 _ (by decide)).trans O2
  replace O3 := (e2 _ (by decide)).trans O3
  replace O12 := (e2 _ (by decide)).trans O12
  replace O13 := (e2 _ (by decide)).trans O13
  replace O14 := (e2 _ (by decide)).trans O14
  replace O15 := (e2 _ (by decide)).trans O15
  replace O16 := (e2 _ (by decide)).trans O16
  replace O17 := (e2 _ (by decide)).trans O17
  replace O18 := (e2 _ (by decide)).trans O18
  replace O19 := (e2 _ (by decide)).trans O19
  replace O20 := (e2 _ (by decide)).trans O20
  replace O21 := (e2 _ (by decide)).trans O21
  replace O22 := (e2 _ (by decide)).trans O22
  replace O23 := (e2 _ (by decide)).trans O23
  replace O24 := (e2 _ (by decide)).trans O24
  replace O25 := (e2 _ (by decide)).trans O25
  replace O26 := (e2 _ (by decide)).trans O26
  replace O27 := (e2 _ (by decide)).trans O27
  replace O28 := n2_0
  replace hV : ∀ j, j < 8 → h_2 (j + 4) = some (wB (j + 4) (_ )) := fun j hj => (e2 _ (by omega)).trans (hV j hj)
  obtain rfl : v_1 = v_2 := ev1.symm.trans ev2
  refine G_icmp_eq 1755 1169 dL_law_1166 (by decide) rfl (fun _ => ?_) (fun z => absurd rfl z)
  exact kk _ ⟨_, _, _, _, _, _, _, _, _, _, _, _, _, _, _, _, _, _, _, _, _, _, _, _, _, _, _, _, _, _, ⟨O0, O1, O2, O3, hV, O12, O13, O14, O15, O16, O17, O18, O19, O20, O21, O22, O23, O24, O25, O26, O27, O28⟩, ok⟩
set_option maxHeartbeats 4000000 in
set_option maxRecDepth 100000 in
theorem K_never {G : GX} {X : En} {l : Launch} {nc ns : Nat} (hRc : nc ≤ 600000 ∧ ns ≤ 7302250) {b L : Nat} {xs : Nat → Int32} (lg : LG G X b L xs) {i : Int32} (h1 : vp_in (i + 1) L) (h2 : vp_in (i + 2) L) (h3 : vp_in (i + 3) L) (h4 : vp_in (i + 4) L) {h : Hp} (hI : Inv h) (kk : ∀ h', Inv h' → Ag G X l mL_law nc ns 1755 (lwL i) [] h') : Ag G X l mL_law nc ns 1171 (lwL i) [] h := by
  obtain ⟨x, g, r, xi, np, kp, V, t12, n12, k12, t15, n15, im, T, z, W, x13, y14, y16, t17, n17, y18, y20, y22, y23, x24, s25, t25, y26, x27, ⟨O0, O1, O2, O3, hV, O12, O13, O14, O15, O16, O17, O18, O19, O20, O21, O22, O23, O24, O25, O26, O27, O28⟩, ok⟩ := hI
  obtain ⟨a1, a2, a3, a4, a5, a6, a7, a8, a9, a10, a11⟩ := id ok
  refine G_aload_n 1172 dL_law_1171 rfl rfl rfl ?_
  refine G_aload_n 1173 dL_law_1172 rfl rfl rfl ?_
  refine G_iload_n 1174 dL_law_1173 rfl rfl rfl ?_
  refine G_iconst 1175 1 dL_law_1174 rfl (by decide) ?_
  refine G_iadd 1176 dL_law_1175 rfl ?_
  refine G_sld 1177 lg.1 lg.2.1 lg.2.2.1 lg.2.2.2 dL_law_1176 rfl h1 ?_
  refine G_callVI 1180 (S_X9_never X l O0 O1 a1 O25 O26 (v := (xs (i + 1).toNatClampNeg))) dL_law_1177 rfl kX9_never lk_L_143 rfl O0 (by decide) hRc rfl (Nat.le_of_ble_eq_true rfl) (fun v_1 h_1 q_1 => ?_)
  obtain ⟨ev1, z26_1, n1_0, n1_1, e1⟩ := q_1
  replace O0 := n1_0
  replace O1 := (e1 _ (by decide) (by decide)).trans O1
  replace O2 := (e1 _ (by decide) (by decide)).trans O2
  replace O3 := (e1 _ (by decide) (by decide)).trans O3
  replace O12 := (e1 _ (by decide) (by decide)).trans O12
  replace O13 := (e1 _ (by decide) (by decide)).trans O13
  replace O14 := (e1 _ (by decide) (by decide)).trans O14
  replace O15 := (e1 _ (by decide) (by decide)).trans O15
  replace O16 := (e1 _ (by decide) (by decide)).trans O16
  replace O17 := (e1 _ (by decide) (by decide)).trans O17
  replace O18 := (e1 _ (by decide) (by decide)).trans O18
  replace O19 := (e1 _ (by decide) (by decide)).trans O19
  replace O20 := (e1 _ (by decide) (by decide)).trans O20
  replace O21 := (e1 _ (by decide) (by decide)).trans O21
  replace O22 := (e1 _ (by decide) (by decide)).trans O22
  replace O23 := (e1 _ (by decide) (by decide)).trans O23
  replace O24 := (e1 _ (by decide) (by decide)).trans O24
  replace O25 := (e1 _ (by decide) (by decide)).trans O25
  replace O26 := n1_1
  replace O27 := (e1 _ (by decide) (by decide)).trans O27
  replace O28 := (e1 _ (by decide) (by decide)).trans O28
  replace hV : ∀ j, j < 8 → h_1 (j + 4) = some (wB (j + 4) (_ )) := fun j hj => (e1 _ (by omega) (by omega)).trans (hV j hj)
  refine G_aload_n 1181 dL_law_1180 rfl rfl rfl ?_
  refine G_aload_n 1182 dL_law_1181 rfl rfl rfl ?_
  refine G_iload_n 1183 dL_law_1182 rfl rfl rfl ?_
  refine G_iconst 1184 1 dL_law_1183 rfl (by decide) ?_
  refine G_iadd 1185 dL_law_1184 rfl ?_
  refine G_sld 1186 lg.1 lg.2.1 lg.2.2.1 lg.2.2.2 dL_law_1185 rfl h1 ?_
  refine G_callVI 1189 (S_X10_never X l O28 a1 (v := (xs (i + 1).toNatClampNeg))) dL_law_1186 rfl kX10_never lk_L_146 rfl O28 (by decide) hRc rfl (Nat.le_of_ble_eq_true rfl) (fun v_2 h_2 q_2 => ?_)
  obtain ⟨ev2, z1_2, n2_0, e2⟩ := q_2
  replace O0 := (e2 _ (by decide)).trans O0
  replace O1 := (e2 _ (by decide)).trans O1
  replace O2 := (e2 _ (by decide)).trans O2
  replace O3 := (e2 _ (by decide)).trans O3
  replace O12 := (e2 _ (by decide)).trans O12
  replace O13 := (e2 _ (by decide)).trans O13
  replace O14 := (e2 _ (by decide)).trans O14
  replace O15 := (e2 _ (by decide)).trans O15
  replace O16 := (e2 _ (by decide)).trans O16
  replace O17 := (e2 _ (by decide)).trans O17
  replace O18 := (e2 _ (by decide)).trans O18
  replace O19 := (e2 _ (by decide)).trans O19
  replace O20 := (e2 _ (by decide)).trans O20
  replace O21 := (e2 _ (by decide)).trans O21
  replace O22 := (e2 _ (by decide)).trans O22
  replace O23 := (e2 _ (by decide)).trans O23
  replace O24 := (e2 _ (by decide)).trans O24
  replace O25 := (e2 _ (by decide)).trans O25
  replace O26 := (e2 _ (by decide)).trans O26
  replace O27 := (e2 _ (by decide)).trans O27
  replace O28 := n2_0
  replace hV : ∀ j, j < 8 → h_2 (j + 4) = some (wB (j + 4) (_ )) := fun j hj => (e2 _ (by omega)).trans (hV j hj)
  obtain rfl : v_1 = v_2 := ev1.symm.trans ev2
  refine G_icmp_eq 1755 1192 dL_law_1189 (by decide) rfl (fun _ => ?_) (fun z => absurd rfl z)
  exact kk _ ⟨_, _, _, _, _, _, _, _, _, _, _, _, _, _, _, _, _, _, _, _, _, _, _, _, _, _, _, _, _, _, ⟨O0, O1, O2, O3, hV, O12, O13, O14, O15, O16, O17, O18, O19, O20, O21, O22, O23, O24, O25, O26, O27, O28⟩, ok⟩
set_option maxHeartbeats 4000000 in
set_option maxRecDepth 100000 in
theorem K_alike {G : GX} {X : En} {l : Launch} {nc ns : Nat} (hRc : nc ≤ 600000 ∧ ns ≤ 7302250) {b L : Nat} {xs : Nat → Int32} (lg : LG G X b L xs) {i : Int32} (h1 : vp_in (i + 1) L) (h2 : vp_in (i + 2) L) (h3 : vp_in (i + 3) L) (h4 : vp_in (i + 4) L) {h : Hp} (hI : Inv h) (kk : ∀ h', Inv h' → Ag G X l mL_law nc ns 1755 (lwL i) [] h') : Ag G X l mL_law nc ns 1194 (lwL i) [] h := by
  obtain ⟨x, g, r, xi, np, kp, V, t12, n12, k12, t15, n15, im, T, z, W, x13, y14, y16, t17, n17, y18, y20, y22, y23, x24, s25, t25, y26, x27, ⟨O0, O1, O2, O3, hV, O12, O13, O14, O15, O16, O17, O18, O19, O20, O21, O22, O23, O24, O25, O26, O27, O28⟩, ok⟩ := hI
  obtain ⟨a1, a2, a3, a4, a5, a6, a7, a8, a9, a10, a11⟩ := id ok
  refine G_aload_n 1195 dL_law_1194 rfl rfl rfl ?_
  refine G_aload_n 1196 dL_law_1195 rfl rfl rfl ?_
  refine G_iload_n 1197 dL_law_1196 rfl rfl rfl ?_
  refine G_iconst 1198 1 dL_law_1197 rfl (by decide) ?_
  refine G_iadd 1199 dL_law_1198 rfl ?_
  refine G_sld 1200 lg.1 lg.2.1 lg.2.2.1 lg.2.2.2 dL_law_1199 rfl h1 ?_
  refine G_callVI 1203 (S_X9_alike X l O0 O1 a1 O25 O26 (v := (xs (i + 1).toNatClampNeg))) dL_law_1200 rfl kX9_alike lk_L_147 rfl O0 (by decide) hRc rfl (Nat.le_of_ble_eq_true rfl) (fun v_1 h_1 q_1 => ?_)
  obtain ⟨ev1, z26_1, n1_0, n1_1, e1⟩ := q_1
  replace O0 := n1_0
  replace O1 := (e1 _ (by decide) (by decide)).trans O1
  replace O2 := (e1 _ (by decide) (by decide)).trans O2
  replace O3 := (e1 _ (by decide) (by decide)).trans O3
  replace O12 := (e1 _ (by decide) (by decide)).trans O12
  replace O13 := (e1 _ (by decide) (by decide)).trans O13
  replace O14 := (e1 _ (by decide) (by decide)).trans O14
  replace O15 := (e1 _ (by decide) (by decide)).trans O15
  replace O16 := (e1 _ (by decide) (by decide)).trans O16
  replace O17 := (e1 _ (by decide) (by decide)).trans O17
  replace O18 := (e1 _ (by decide) (by decide)).trans O18
  replace O19 := (e1 _ (by decide) (by decide)).trans O19
  replace O20 := (e1 _ (by decide) (by decide)).trans O20
  replace O21 := (e1 _ (by decide) (by decide)).trans O21
  replace O22 := (e1 _ (by decide) (by decide)).trans O22
  replace O23 := (e1 _ (by decide) (by decide)).trans O23
  replace O24 := (e1 _ (by decide) (by decide)).trans O24
  replace O25 := (e1 _ (by decide) (by decide)).trans O25
  replace O26 := n1_1
  replace O27 := (e1 _ (by decide) (by decide)).trans O27
  replace O28 := (e1 _ (by decide) (by decide)).trans O28
  replace hV : ∀ j, j < 8 → h_1 (j + 4) = some (wB (j + 4) (_ )) := fun j hj => (e1 _ (by omega) (by omega)).trans (hV j hj)
  refine G_aload_n 1204 dL_law_1203 rfl rfl rfl ?_
  refine G_aload_n 1205 dL_law_1204 rfl rfl rfl ?_
  refine G_iload_n 1206 dL_law_1205 rfl rfl rfl ?_
  refine G_iconst 1207 1 dL_law_1206 rfl (by decide) ?_
  refine G_iadd 1208 dL_law_1207 rfl ?_
  refine G_sld 1209 lg.1 lg.2.1 lg.2.2.1 lg.2.2.2 dL_law_1208 rfl h1 ?_
  refine G_callVI 1212 (S_X10_alike X l O28 a1 (v := (xs (i + 1).toNatClampNeg))) dL_law_1209 rfl kX10_alike lk_L_150 rfl O28 (by decide) hRc rfl (Nat.le_of_ble_eq_true rfl) (fun v_2 h_2 q_2 => ?_)
  obtain ⟨ev2, z1_2, n2_0, e2⟩ := q_2
  replace O0 := (e2 _ (by decide)).trans O0
  replace O1 := (e2 _ (by decide)).trans O1
  replace O2 := (e2 _ (by decide)).trans O2
  replace O3 := (e2 _ (by decide)).trans O3
  replace O12 := (e2 _ (by decide)).trans O12
  replace O13 := (e2 _ (by decide)).trans O13
  replace O14 := (e2 _ (by decide)).trans O14
  replace O15 := (e2 _ (by decide)).trans O15
  replace O16 := (e2 _ (by decide)).trans O16
  replace O17 := (e2 _ (by decide)).trans O17
  replace O18 := (e2 _ (by decide)).trans O18
  replace O19 := (e2 _ (by decide)).trans O19
  replace O20 := (e2 _ (by decide)).trans O20
  replace O21 := (e2 _ (by decide)).trans O21
  replace O22 := (e2 _ (by decide)).trans O22
  replace O23 := (e2 _ (by decide)).trans O23
  replace O24 := (e2 _ (by decide)).trans O24
  replace O25 := (e2 _ (by decide)).trans O25
  replace O26 := (e2 _ (by decide)).trans O26
  replace O27 := (e2 _ (by decide)).trans O27
  replace O28 := n2_0
  replace hV : ∀ j, j < 8 → h_2 (j + 4) = some (wB (j + 4) (_ )) := fun j hj => (e2 _ (by omega)).trans (hV j hj)
  obtain rfl : v_1 = v_2 := ev1.symm.trans ev2
  refine G_icmp_eq 1755 1215 dL_law_1212 (by decide) rfl (fun _ => ?_) (fun z => absurd rfl z)
  exact kk _ ⟨_, _, _, _, _, _, _, _, _, _, _, _, _, _, _, _, _, _, _, _, _, _, _, _, _, _, _, _, _, _, ⟨O0, O1, O2, O3, hV, O12, O13, O14, O15, O16, O17, O18, O19, O20, O21, O22, O23, O24, O25, O26, O27, O28⟩, ok⟩
set_option maxHeartbeats 4000000 in
set_option maxRecDepth 100000 in
theorem K_dropped {G : GX} {X : En} {l : Launch} {nc ns : Nat} (hRc : nc ≤ 600000 ∧ ns ≤ 7302250) {b L : Nat} {xs : Nat → Int32} (lg : LG G X b L xs) {i : Int32} (h1 : vp_in (i + 1) L) (h2 : vp_in (i + 2) L) (h3 : vp_in (i + 3) L) (h4 : vp_in (i + 4) L) {h : Hp} (hI : Inv h) (kk : ∀ h', Inv h' → Ag G X l mL_law nc ns 1755 (lwL i) [] h') : Ag G X l mL_law nc ns 1217 (lwL i) [] h := by
  obtain ⟨x, g, r, xi, np, kp, V, t12, n12, k12, t15, n15, im, T, z, W, x13, y14, y16, t17, n17, y18, y20, y22, y23, x24, s25, t25, y26, x27, ⟨O0, O1, O2, O3, hV, O12, O13, O14, O15, O16, O17, O18, O19, O20, O21, O22, O23, O24, O25, O26, O27, O28⟩, ok⟩ := hI
  obtain ⟨a1, a2, a3, a4, a5, a6, a7, a8, a9, a10, a11⟩ := id ok
  refine G_aload_n 1218 dL_law_1217 rfl rfl rfl ?_
  refine G_aload_n 1219 dL_law_1218 rfl rfl rfl ?_
  refine G_iload_n 1220 dL_law_1219 rfl rfl rfl ?_
  refine G_iconst 1221 1 dL_law_1220 rfl (by decide) ?_
  refine G_iadd 1222 dL_law_1221 rfl ?_
  refine G_sld 1223 lg.1 lg.2.1 lg.2.2.1 lg.2.2.2 dL_law_1222 rfl h1 ?_
  refine G_callVI 1226 (S_X9_dropped X l O0 O1 a1 O21 O22 (p := (xs (i + 1).toNatClampNeg))) dL_law_1223 rfl kX9_dropped lk_L_151 rfl O0 (by decide) hRc rfl (Nat.le_of_ble_eq_true rfl) (fun v_1 h_1 q_1 => ?_)
  obtain ⟨ev1, z22_1, n1_0, n1_1, e1⟩ := q_1
  replace O0 := n1_0
  replace O1 := (e1 _ (by decide) (by decide)).trans O1
  replace O2 := (e1 _ (by decide) (by decide)).trans O2
  replace O3 := (e1 _ (by decide) (by decide)).trans O3
  replace O12 := (e1 _ (by decide) (by decide)).trans O12
  replace O13 := (e1 _ (by decide) (by decide)).trans O13
  replace O14 := (e1 _ (by decide) (by decide)).trans O14
  replace O15 := (e1 _ (by decide) (by decide)).trans O15
  replace O16 := (e1 _ (by decide) (by decide)).trans O16
  replace O17 := (e1 _ (by decide) (by decide)).trans O17
  replace O18 := (e1 _ (by decide) (by decide)).trans O18
  replace O19 := (e1 _ (by decide) (by decide)).trans O19
  replace O20 := (e1 _ (by decide) (by decide)).trans O20
  replace O21 := (e1 _ (by decide) (by decide)).trans O21
  replace O22 := n1_1
  replace O23 := (e1 _ (by decide) (by decide)).trans O23
  replace O24 := (e1 _ (by decide) (by decide)).trans O24
  replace O25 := (e1 _ (by decide) (by decide)).trans O25
  replace O26 := (e1 _ (by decide) (by decide)).trans O26
  replace O27 := (e1 _ (by decide) (by decide)).trans O27
  replace O28 := (e1 _ (by decide) (by decide)).trans O28
  replace hV : ∀ j, j < 8 → h_1 (j + 4) = some (wB (j + 4) (_ )) := fun j hj => (e1 _ (by omega) (by omega)).trans (hV j hj)
  refine G_aload_n 1227 dL_law_1226 rfl rfl rfl ?_
  refine G_aload_n 1228 dL_law_1227 rfl rfl rfl ?_
  refine G_iload_n 1229 dL_law_1228 rfl rfl rfl ?_
  refine G_iconst 1230 1 dL_law_1229 rfl (by decide) ?_
  refine G_iadd 1231 dL_law_1230 rfl ?_
  refine G_sld 1232 lg.1 lg.2.1 lg.2.2.1 lg.2.2.2 dL_law_1231 rfl h1 ?_
  refine G_callVI 1235 (S_X10_dropped X l O28 a1 (p := (xs (i + 1).toNatClampNeg))) dL_law_1232 rfl kX10_dropped lk_L_154 rfl O28 (by decide) hRc rfl (Nat.le_of_ble_eq_true rfl) (fun v_2 h_2 q_2 => ?_)
  obtain ⟨ev2, z1_2, n2_0, e2⟩ := q_2
  replace O0 := (e2 _ (by decide)).trans O0
  replace O1 := (e2 _ (by decide)).trans O1
  replace O2 := (e2 _ (by decide)).trans O2
  replace O3 := (e2 _ (by decide)).trans O3
  replace O12 := (e2 _ (by decide)).trans O12
  replace O13 := (e2 _ (by decide)).trans O13
  replace O14 := (e2 _ (by decide)).trans O14
  replace O15 := (e2 _ (by decide)).trans O15
  replace O16 := (e2 _ (by decide)).trans O16
  replace O17 := (e2 _ (by decide)).trans O17
  replace O18 := (e2 _ (by decide)).trans O18
  replace O19 := (e2 _ (by decide)).trans O19
  replace O20 := (e2 _ (by decide)).trans O20
  replace O21 := (e2 _ (by decide)).trans O21
  replace O22 := (e2 _ (by decide)).trans O22
  replace O23 := (e2 _ (by decide)).trans O23
  replace O24 := (e2 _ (by decide)).trans O24
  replace O25 := (e2 _ (by decide)).trans O25
  replace O26 := (e2 _ (by decide)).trans O26
  replace O27 := (e2 _ (by decide)).trans O27
  replace O28 := n2_0
  replace hV : ∀ j, j < 8 → h_2 (j + 4) = some (wB (j + 4) (_ )) := fun j hj => (e2 _ (by omega)).trans (hV j hj)
  obtain rfl : v_1 = v_2 := ev1.symm.trans ev2
  refine G_icmp_eq 1755 1238 dL_law_1235 (by decide) rfl (fun _ => ?_) (fun z => absurd rfl z)
  exact kk _ ⟨_, _, _, _, _, _, _, _, _, _, _, _, _, _, _, _, _, _, _, _, _, _, _, _, _, _, _, _, _, _, ⟨O0, O1, O2, O3, hV, O12, O13, O14, O15, O16, O17, O18, O19, O20, O21, O22, O23, O24, O25, O26, O27, O28⟩, ok⟩
set_option maxHeartbeats 4000000 in
set_option maxRecDepth 100000 in
theorem K_key {G : GX} {X : En} {l : Launch} {nc ns : Nat} (hRc : nc ≤ 600000 ∧ ns ≤ 7302250) {b L : Nat} {xs : Nat → Int32} (lg : LG G X b L xs) {i : Int32} (h1 : vp_in (i + 1) L) (h2 : vp_in (i + 2) L) (h3 : vp_in (i + 3) L) (h4 : vp_in (i + 4) L) {h : Hp} (hI : Inv h) (kk : ∀ h', Inv h' → Ag G X l mL_law nc ns 1755 (lwL i) [] h') : Ag G X l mL_law nc ns 1240 (lwL i) [] h := by
  obtain ⟨x, g, r, xi, np, kp, V, t12, n12, k12, t15, n15, im, T, z, W, x13, y14, y16, t17, n17, y18, y20, y22, y23, x24, s25, t25, y26, x27, ⟨O0, O1, O2, O3, hV, O12, O13, O14, O15, O16, O17, O18, O19, O20, O21, O22, O23, O24, O25, O26, O27, O28⟩, ok⟩ := hI
  obtain ⟨a1, a2, a3, a4, a5, a6, a7, a8, a9, a10, a11⟩ := id ok
  refine G_aload_n 1241 dL_law_1240 rfl rfl rfl ?_
  refine G_aload_n 1242 dL_law_1241 rfl rfl rfl ?_
  refine G_iload_n 1243 dL_law_1242 rfl rfl rfl ?_
  refine G_iconst 1244 1 dL_law_1243 rfl (by decide) ?_
  refine G_iadd 1245 dL_law_1244 rfl ?_
  refine G_sld 1246 lg.1 lg.2.1 lg.2.2.1 lg.2.2.2 dL_law_1245 rfl h1 ?_
  refine G_callVI 1249 (S_X9_key X l O0 O1 a1 O25 O26 (v := (xs (i + 1).toNatClampNeg))) dL_law_1246 rfl kX9_key lk_L_155 rfl O0 (by decide) hRc rfl (Nat.le_of_ble_eq_true rfl) (fun v_1 h_1 q_1 => ?_)
  obtain ⟨ev1, z26_1, n1_0, n1_1, e1⟩ := q_1
  replace O0 := n1_0
  replace O1 := (e1 _ (by decide) (by decide)).trans O1
  replace O2 := (e1 _ (by decide) (by decide)).trans O2
  replace O3 := (e1 _ (by decide) (by decide)).trans O3
  replace O12 := (e1 _ (by decide) (by decide)).trans O12
  replace O13 := (e1 _ (by decide) (by decide)).trans O13
  replace O14 := (e1 _ (by decide) (by decide)).trans O14
  replace O15 := (e1 _ (by decide) (by decide)).trans O15
  replace O16 := (e1 _ (by decide) (by decide)).trans O16
  replace O17 := (e1 _ (by decide) (by decide)).trans O17
  replace O18 := (e1 _ (by decide) (by decide)).trans O18
  replace O19 := (e1 _ (by decide) (by decide)).trans O19
  replace O20 := (e1 _ (by decide) (by decide)).trans O20
  replace O21 := (e1 _ (by decide) (by decide)).trans O21
  replace O22 := (e1 _ (by decide) (by decide)).trans O22
  replace O23 := (e1 _ (by decide) (by decide)).trans O23
  replace O24 := (e1 _ (by decide) (by decide)).trans O24
  replace O25 := (e1 _ (by decide) (by decide)).trans O25
  replace O26 := n1_1
  replace O27 := (e1 _ (by decide) (by decide)).trans O27
  replace O28 := (e1 _ (by decide) (by decide)).trans O28
  replace hV : ∀ j, j < 8 → h_1 (j + 4) = some (wB (j + 4) (_ )) := fun j hj => (e1 _ (by omega) (by omega)).trans (hV j hj)
  refine G_aload_n 1250 dL_law_1249 rfl rfl rfl ?_
  refine G_aload_n 1251 dL_law_1250 rfl rfl rfl ?_
  refine G_iload_n 1252 dL_law_1251 rfl rfl rfl ?_
  refine G_iconst 1253 1 dL_law_1252 rfl (by decide) ?_
  refine G_iadd 1254 dL_law_1253 rfl ?_
  refine G_sld 1255 lg.1 lg.2.1 lg.2.2.1 lg.2.2.2 dL_law_1254 rfl h1 ?_
  refine G_callVI 1258 (S_X10_key X l O28 a1 (v := (xs (i + 1).toNatClampNeg))) dL_law_1255 rfl kX10_key lk_L_158 rfl O28 (by decide) hRc rfl (Nat.le_of_ble_eq_true rfl) (fun v_2 h_2 q_2 => ?_)
  obtain ⟨ev2, z1_2, n2_0, e2⟩ := q_2
  replace O0 := (e2 _ (by decide)).trans O0
  replace O1 := (e2 _ (by decide)).trans O1
  replace O2 := (e2 _ (by decide)).trans O2
  replace O3 := (e2 _ (by decide)).trans O3
  replace O12 := (e2 _ (by decide)).trans O12
  replace O13 := (e2 _ (by decide)).trans O13
  replace O14 := (e2 _ (by decide)).trans O14
  replace O15 := (e2 _ (by decide)).trans O15
  replace O16 := (e2 _ (by decide)).trans O16
  replace O17 := (e2 _ (by decide)).trans O17
  replace O18 := (e2 _ (by decide)).trans O18
  replace O19 := (e2 _ (by decide)).trans O19
  replace O20 := (e2 _ (by decide)).trans O20
  replace O21 := (e2 _ (by decide)).trans O21
  replace O22 := (e2 _ (by decide)).trans O22
  replace O23 := (e2 _ (by decide)).trans O23
  replace O24 := (e2 _ (by decide)).trans O24
  replace O25 := (e2 _ (by decide)).trans O25
  replace O26 := (e2 _ (by decide)).trans O26
  replace O27 := (e2 _ (by decide)).trans O27
  replace O28 := n2_0
  replace hV : ∀ j, j < 8 → h_2 (j + 4) = some (wB (j + 4) (_ )) := fun j hj => (e2 _ (by omega)).trans (hV j hj)
  obtain rfl : v_1 = v_2 := ev1.symm.trans ev2
  refine G_icmp_eq 1755 1261 dL_law_1258 (by decide) rfl (fun _ => ?_) (fun z => absurd rfl z)
  exact kk _ ⟨_, _, _, _, _, _, _, _, _, _, _, _, _, _, _, _, _, _, _, _, _, _, _, _, _, _, _, _, _, _, ⟨O0, O1, O2, O3, hV, O12, O13, O14, O15, O16, O17, O18, O19, O20, O21, O22, O23, O24, O25, O26, O27, O28⟩, ok⟩
set_option maxHeartbeats 4000000 in
set_option maxRecDepth 100000 in
theorem K_latest {G : GX} {X : En} {l : Launch} {nc ns : Nat} (hRc : nc ≤ 600000 ∧ ns ≤ 7302250) {b L : Nat} {xs : Nat → Int32} (lg : LG G X b L xs) {i : Int32} (h1 : vp_in (i + 1) L) (h2 : vp_in (i + 2) L) (h3 : vp_in (i + 3) L) (h4 : vp_in (i + 4) L) {h : Hp} (hI : Inv h) (kk : ∀ h', Inv h' → Ag G X l mL_law nc ns 1755 (lwL i) [] h') : Ag G X l mL_law nc ns 1263 (lwL i) [] h := by
  obtain ⟨x, g, r, xi, np, kp, V, t12, n12, k12, t15, n15, im, T, z, W, x13, y14, y16, t17, n17, y18, y20, y22, y23, x24, s25, t25, y26, x27, ⟨O0, O1, O2, O3, hV, O12, O13, O14, O15, O16, O17, O18, O19, O20, O21, O22, O23, O24, O25, O26, O27, O28⟩, ok⟩ := hI
  obtain ⟨a1, a2, a3, a4, a5, a6, a7, a8, a9, a10, a11⟩ := id ok
  refine G_aload_n 1264 dL_law_1263 rfl rfl rfl ?_
  refine G_aload_n 1265 dL_law_1264 rfl rfl rfl ?_
  refine G_iload_n 1266 dL_law_1265 rfl rfl rfl ?_
  refine G_iconst 1267 1 dL_law_1266 rfl (by decide) ?_
  refine G_iadd 1268 dL_law_1267 rfl ?_
  refine G_sld 1269 lg.1 lg.2.1 lg.2.2.1 lg.2.2.2 dL_law_1268 rfl h1 ?_
  refine G_aload_n 1270 dL_law_1269 rfl rfl rfl ?_
  refine G_iload_n 1271 dL_law_1270 rfl rfl rfl ?_
  refine G_iconst 1272 2 dL_law_1271 rfl (by decide) ?_
  refine G_iadd 1273 dL_law_1272 rfl ?_
  refine G_sld 1274 lg.1 lg.2.1 lg.2.2.1 lg.2.2.2 dL_law_1273 rfl h2 ?_
  refine G_callVI 1277 (S_X9_latest X l O0 O1 a1 O21 O22 O24 (p := (xs (i + 1).toNatClampNeg)) (l0 := (xs (i + 2).toNatClampNeg))) dL_law_1274 rfl kX9_latest lk_L_159 rfl O0 (by decide) hRc rfl (Nat.le_of_ble_eq_true rfl) (fun v_1 h_1 q_1 => ?_)
  obtain ⟨ev1, z22_1, z24_1, n1_0, n1_1, n1_2, e1⟩ := q_1
  replace O0 := n1_0
  replace O1 := (e1 _ (by decide) (by decide) (by decide)).trans O1
  replace O2 := (e1 _ (by decide) (by decide) (by decide)).trans O2
  replace O3 := (e1 _ (by decide) (by decide) (by decide)).trans O3
  replace O12 := (e1 _ (by decide) (by decide) (by decide)).trans O12
  replace O13 := (e1 _ (by decide) (by decide) (by decide)).trans O13
  replace O14 := (e1 _ (by decide) (by decide) (by decide)).trans O14
  replace O15 := (e1 _ (by decide) (by decide) (by decide)).trans O15
  replace O16 := (e1 _ (by decide) (by decide) (by decide)).trans O16
  replace O17 := (e1 _ (by decide) (by decide) (by decide)).trans O17
  replace O18 := (e1 _ (by decide) (by decide) (by decide)).trans O18
  replace O19 := (e1 _ (by decide) (by decide) (by decide)).trans O19
  replace O20 := (e1 _ (by decide) (by decide) (by decide)).trans O20
  replace O21 := (e1 _ (by decide) (by decide) (by decide)).trans O21
  replace O22 := n1_1
  replace O23 := (e1 _ (by decide) (by decide) (by decide)).trans O23
  replace O24 := n1_2
  replace O25 := (e1 _ (by decide) (by decide) (by decide)).trans O25
  replace O26 := (e1 _ (by decide) (by decide) (by decide)).trans O26
  replace O27 := (e1 _ (by decide) (by decide) (by decide)).trans O27
  replace O28 := (e1 _ (by decide) (by decide) (by decide)).trans O28
  replace hV : ∀ j, j < 8 → h_1 (j + 4) = some (wB (j + 4) (_ )) := fun j hj => (e1 _ (by omega) (by omega) (by omega)).trans (hV j hj)
  refine G_aload_n 1278 dL_law_1277 rfl rfl rfl ?_
  refine G_aload_n 1279 dL_law_1278 rfl rfl rfl ?_
  refine G_iload_n 1280 dL_law_1279 rfl rfl rfl ?_
  refine G_iconst 1281 1 dL_law_1280 rfl (by decide) ?_
  refine G_iadd 1282 dL_law_1281 rfl ?_
  refine G_sld 1283 lg.1 lg.2.1 lg.2.2.1 lg.2.2.2 dL_law_1282 rfl h1 ?_
  refine G_aload_n 1284 dL_law_1283 rfl rfl rfl ?_
  refine G_iload_n 1285 dL_law_1284 rfl rfl rfl ?_
  refine G_iconst 1286 2 dL_law_1285 rfl (by decide) ?_
  refine G_iadd 1287 dL_law_1286 rfl ?_
  refine G_sld 1288 lg.1 lg.2.1 lg.2.2.1 lg.2.2.2 dL_law_1287 rfl h2 ?_
  refine G_callVI 1291 (S_X10_latest X l O28 a1 (p := (xs (i + 1).toNatClampNeg)) (l0 := (xs (i + 2).toNatClampNeg))) dL_law_1288 rfl kX10_latest lk_L_162 rfl O28 (by decide) hRc rfl (Nat.le_of_ble_eq_true rfl) (fun v_2 h_2 q_2 => ?_)
  obtain ⟨ev2, z1_2, n2_0, e2⟩ := q_2
  replace O0 := (e2 _ (by decide)).trans O0
  replace O1 := (e2 _ (by decide)).trans O1
  replace O2 := (e2 _ (by decide)).trans O2
  replace O3 := (e2 _ (by decide)).trans O3
  replace O12 := (e2 _ (by decide)).trans O12
  replace O13 := (e2 _ (by decide)).trans O13
  replace O14 := (e2 _ (by decide)).trans O14
  replace O15 := (e2 _ (by decide)).trans O15
  replace O16 := (e2 _ (by decide)).trans O16
  replace O17 := (e2 _ (by decide)).trans O17
  replace O18 := (e2 _ (by decide)).trans O18
  replace O19 := (e2 _ (by decide)).trans O19
  replace O20 := (e2 _ (by decide)).trans O20
  replace O21 := (e2 _ (by decide)).trans O21
  replace O22 := (e2 _ (by decide)).trans O22
  replace O23 := (e2 _ (by decide)).trans O23
  replace O24 := (e2 _ (by decide)).trans O24
  replace O25 := (e2 _ (by decide)).trans O25
  replace O26 := (e2 _ (by decide)).trans O26
  replace O27 := (e2 _ (by decide)).trans O27
  replace O28 := n2_0
  replace hV : ∀ j, j < 8 → h_2 (j + 4) = some (wB (j + 4) (_ )) := fun j hj => (e2 _ (by omega)).trans (hV j hj)
  obtain rfl : v_1 = v_2 := ev1.symm.trans ev2
  refine G_icmp_eq 1755 1294 dL_law_1291 (by decide) rfl (fun _ => ?_) (fun z => absurd rfl z)
  exact kk _ ⟨_, _, _, _, _, _, _, _, _, _, _, _, _, _, _, _, _, _, _, _, _, _, _, _, _, _, _, _, _, _, ⟨O0, O1, O2, O3, hV, O12, O13, O14, O15, O16, O17, O18, O19, O20, O21, O22, O23, O24, O25, O26, O27, O28⟩, ok⟩
set_option maxHeartbeats 4000000 in
set_option maxRecDepth 100000 in
theorem K_needed {G : GX} {X : En} {l : Launch} {nc ns : Nat} (hRc : nc ≤ 600000 ∧ ns ≤ 7302250) {b L : Nat} {xs : Nat → Int32} (lg : LG G X b L xs) {i : Int32} (h1 : vp_in (i + 1) L) (h2 : vp_in (i + 2) L) (h3 : vp_in (i + 3) L) (h4 : vp_in (i + 4) L) {h : Hp} (hI : Inv h) (kk : ∀ h', Inv h' → Ag G X l mL_law nc ns 1755 (lwL i) [] h') : Ag G X l mL_law nc ns 1296 (lwL i) [] h := by
  obtain ⟨x, g, r, xi, np, kp, V, t12, n12, k12, t15, n15, im, T, z, W, x13, y14, y16, t17, n17, y18, y20, y22, y23, x24, s25, t25, y26, x27, ⟨O0, O1, O2, O3, hV, O12, O13, O14, O15, O16, O17, O18, O19, O20, O21, O22, O23, O24, O25, O26, O27, O28⟩, ok⟩ := hI
  obtain ⟨a1, a2, a3, a4, a5, a6, a7, a8, a9, a10, a11⟩ := id ok
  refine G_aload_n 1297 dL_law_1296 rfl rfl rfl ?_
  refine G_aload_n 1298 dL_law_1297 rfl rfl rfl ?_
  refine G_iload_n 1299 dL_law_1298 rfl rfl rfl ?_
  refine G_iconst 1300 1 dL_law_1299 rfl (by decide) ?_
  refine G_iadd 1301 dL_law_1300 rfl ?_
  refine G_sld 1302 lg.1 lg.2.1 lg.2.2.1 lg.2.2.2 dL_law_1301 rfl h1 ?_
  refine G_aload_n 1303 dL_law_1302 rfl rfl rfl ?_
  refine G_iload_n 1304 dL_law_1303 rfl rfl rfl ?_
  refine G_iconst 1305 2 dL_law_1304 rfl (by decide) ?_
  refine G_iadd 1306 dL_law_1305 rfl ?_
  refine G_sld 1307 lg.1 lg.2.1 lg.2.2.1 lg.2.2.2 dL_law_1306 rfl h2 ?_
  refine G_callVI 1310 (S_X9_needed X l O0 O1 a1 O21 O22 (p := (xs (i + 1).toNatClampNeg)) (l0 := (xs (i + 2).toNatClampNeg))) dL_law_1307 rfl kX9_needed lk_L_163 rfl O0 (by decide) hRc rfl (Nat.le_of_ble_eq_true rfl) (fun v_1 h_1 q_1 => ?_)
  obtain ⟨ev1, z22_1, n1_0, n1_1, e1⟩ := q_1
  replace O0 := n1_0
  replace O1 := (e1 _ (by decide) (by decide)).trans O1
  replace O2 := (e1 _ (by decide) (by decide)).trans O2
  replace O3 := (e1 _ (by decide) (by decide)).trans O3
  replace O12 := (e1 _ (by decide) (by decide)).trans O12
  replace O13 := (e1 _ (by decide) (by decide)).trans O13
  replace O14 := (e1 _ (by decide) (by decide)).trans O14
  replace O15 := (e1 _ (by decide) (by decide)).trans O15
  replace O16 := (e1 _ (by decide) (by decide)).trans O16
  replace O17 := (e1 _ (by decide) (by decide)).trans O17
  replace O18 := (e1 _ (by decide) (by decide)).trans O18
  replace O19 := (e1 _ (by decide) (by decide)).trans O19
  replace O20 := (e1 _ (by decide) (by decide)).trans O20
  replace O21 := (e1 _ (by decide) (by decide)).trans O21
  replace O22 := n1_1
  replace O23 := (e1 _ (by decide) (by decide)).trans O23
  replace O24 := (e1 _ (by decide) (by decide)).trans O24
  replace O25 := (e1 _ (by decide) (by decide)).trans O25
  replace O26 := (e1 _ (by decide) (by decide)).trans O26
  replace O27 := (e1 _ (by decide) (by decide)).trans O27
  replace O28 := (e1 _ (by decide) (by decide)).trans O28
  replace hV : ∀ j, j < 8 → h_1 (j + 4) = some (wB (j + 4) (_ )) := fun j hj => (e1 _ (by omega) (by omega)).trans (hV j hj)
  refine G_aload_n 1311 dL_law_1310 rfl rfl rfl ?_
  refine G_aload_n 1312 dL_law_1311 rfl rfl rfl ?_
  refine G_iload_n 1313 dL_law_1312 rfl rfl rfl ?_
  refine G_iconst 1314 1 dL_law_1313 rfl (by decide) ?_
  refine G_iadd 1315 dL_law_1314 rfl ?_
  refine G_sld 1316 lg.1 lg.2.1 lg.2.2.1 lg.2.2.2 dL_law_1315 rfl h1 ?_
  refine G_aload_n 1317 dL_law_1316 rfl rfl rfl ?_
  refine G_iload_n 1318 dL_law_1317 rfl rfl rfl ?_
  refine G_iconst 1319 2 dL_law_1318 rfl (by decide) ?_
  refine G_iadd 1320 dL_law_1319 rfl ?_
  refine G_sld 1321 lg.1 lg.2.1 lg.2.2.1 lg.2.2.2 dL_law_1320 rfl h2 ?_
  refine G_callVI 1324 (S_X10_needed X l O28 a1 (p := (xs (i + 1).toNatClampNeg)) (l0 := (xs (i + 2).toNatClampNeg))) dL_law_1321 rfl kX10_needed lk_L_166 rfl O28 (by decide) hRc rfl (Nat.le_of_ble_eq_true rfl) (fun v_2 h_2 q_2 => ?_)
  obtain ⟨ev2, z1_2, n2_0, e2⟩ := q_2
  replace O0 := (e2 _ (by decide)).trans O0
  replace O1 := (e2 _ (by decide)).trans O1
  replace O2 := (e2 _ (by decide)).trans O2
  replace O3 := (e2 _ (by decide)).trans O3
  replace O12 := (e2 _ (by decide)).trans O12
  replace O13 := (e2 _ (by decide)).trans O13
  replace O14 := (e2 _ (by decide)).trans O14
  replace O15 := (e2 _ (by decide)).trans O15
  replace O16 := (e2 _ (by decide)).trans O16
  replace O17 := (e2 _ (by decide)).trans O17
  replace O18 := (e2 _ (by decide)).trans O18
  replace O19 := (e2 _ (by decide)).trans O19
  replace O20 := (e2 _ (by decide)).trans O20
  replace O21 := (e2 _ (by decide)).trans O21
  replace O22 := (e2 _ (by decide)).trans O22
  replace O23 := (e2 _ (by decide)).trans O23
  replace O24 := (e2 _ (by decide)).trans O24
  replace O25 := (e2 _ (by decide)).trans O25
  replace O26 := (e2 _ (by decide)).trans O26
  replace O27 := (e2 _ (by decide)).trans O27
  replace O28 := n2_0
  replace hV : ∀ j, j < 8 → h_2 (j + 4) = some (wB (j + 4) (_ )) := fun j hj => (e2 _ (by omega)).trans (hV j hj)
  obtain rfl : v_1 = v_2 := ev1.symm.trans ev2
  refine G_icmp_eq 1755 1327 dL_law_1324 (by decide) rfl (fun _ => ?_) (fun z => absurd rfl z)
  exact kk _ ⟨_, _, _, _, _, _, _, _, _, _, _, _, _, _, _, _, _, _, _, _, _, _, _, _, _, _, _, _, _, _, ⟨O0, O1, O2, O3, hV, O12, O13, O14, O15, O16, O17, O18, O19, O20, O21, O22, O23, O24, O25, O26, O27, O28⟩, ok⟩
set_option maxHeartbeats 4000000 in
set_option maxRecDepth 100000 in
theorem K_trade {G : GX} {X : En} {l : Launch} {nc ns : Nat} (hRc : nc ≤ 600000 ∧ ns ≤ 7302250) {b L : Nat} {xs : Nat → Int32} (lg : LG G X b L xs) {i : Int32} (h1 : vp_in (i + 1) L) (h2 : vp_in (i + 2) L) (h3 : vp_in (i + 3) L) (h4 : vp_in (i + 4) L) {h : Hp} (hI : Inv h) (kk : ∀ h', Inv h' → Ag G X l mL_law nc ns 1755 (lwL i) [] h') : Ag G X l mL_law nc ns 1329 (lwL i) [] h := by
  obtain ⟨x, g, r, xi, np, kp, V, t12, n12, k12, t15, n15, im, T, z, W, x13, y14, y16, t17, n17, y18, y20, y22, y23, x24, s25, t25, y26, x27, ⟨O0, O1, O2, O3, hV, O12, O13, O14, O15, O16, O17, O18, O19, O20, O21, O22, O23, O24, O25, O26, O27, O28⟩, ok⟩ := hI
  obtain ⟨a1, a2, a3, a4, a5, a6, a7, a8, a9, a10, a11⟩ := id ok
  refine G_aload_n 1330 dL_law_1329 rfl rfl rfl ?_
  refine G_aload_n 1331 dL_law_1330 rfl rfl rfl ?_
  refine G_iload_n 1332 dL_law_1331 rfl rfl rfl ?_
  refine G_iconst 1333 1 dL_law_1332 rfl (by decide) ?_
  refine G_iadd 1334 dL_law_1333 rfl ?_
  refine G_sld 1335 lg.1 lg.2.1 lg.2.2.1 lg.2.2.2 dL_law_1334 rfl h1 ?_
  refine G_aload_n 1336 dL_law_1335 rfl rfl rfl ?_
  refine G_iload_n 1337 dL_law_1336 rfl rfl rfl ?_
  refine G_iconst 1338 2 dL_law_1337 rfl (by decide) ?_
  refine G_iadd 1339 dL_law_1338 rfl ?_
  refine G_sld 1340 lg.1 lg.2.1 lg.2.2.1 lg.2.2.2 dL_law_1339 rfl h2 ?_
  refine G_aload_n 1341 dL_law_1340 rfl rfl rfl ?_
  refine G_iload_n 1342 dL_law_1341 rfl rfl rfl ?_
  refine G_iconst 1343 3 dL_law_1342 rfl (by decide) ?_
  refine G_iadd 1344 dL_law_1343 rfl ?_
  refine G_sld 1345 lg.1 lg.2.1 lg.2.2.1 lg.2.2.2 dL_law_1344 rfl h3 ?_
  refine G_callVI 1348 (S_X9_trade X l O0 O1 a1 O25 O26 (a := (xs (i + 1).toNatClampNeg)) (b := (xs (i + 2).toNatClampNeg)) (v := (xs (i + 3).toNatClampNeg))) dL_law_1345 rfl kX9_trade lk_L_167 rfl O0 (by decide) hRc rfl (Nat.le_of_ble_eq_true rfl) (fun v_1 h_1 q_1 => ?_)
  obtain ⟨ev1, z26_1, n1_0, n1_1, e1⟩ := q_1
  replace O0 := n1_0
  replace O1 := (e1 _ (by decide) (by decide)).trans O1
  replace O2 := (e1 _ (by decide) (by decide)).trans O2
  replace O3 := (e1 _ (by decide) (by decide)).trans O3
  replace O12 := (e1 _ (by decide) (by decide)).trans O12
  replace O13 := (e1 _ (by decide) (by decide)).trans O13
  replace O14 := (e1 _ (by decide) (by decide)).trans O14
  replace O15 := (e1 _ (by decide) (by decide)).trans O15
  replace O16 := (e1 _ (by decide) (by decide)).trans O16
  replace O17 := (e1 _ (by decide) (by decide)).trans O17
  replace O18 := (e1 _ (by decide) (by decide)).trans O18
  replace O19 := (e1 _ (by decide) (by decide)).trans O19
  replace O20 := (e1 _ (by decide) (by decide)).trans O20
  replace O21 := (e1 _ (by decide) (by decide)).trans O21
  replace O22 := (e1 _ (by decide) (by decide)).trans O22
  replace O23 := (e1 _ (by decide) (by decide)).trans O23
  replace O24 := (e1 _ (by decide) (by decide)).trans O24
  replace O25 := (e1 _ (by decide) (by decide)).trans O25
  replace O26 := n1_1
  replace O27 := (e1 _ (by decide) (by decide)).trans O27
  replace O28 := (e1 _ (by decide) (by decide)).trans O28
  replace hV : ∀ j, j < 8 → h_1 (j + 4) = some (wB (j + 4) (_ )) := fun j hj => (e1 _ (by omega) (by omega)).trans (hV j hj)
  refine G_aload_n 1349 dL_law_1348 rfl rfl rfl ?_
  refine G_aload_n 1350 dL_law_1349 rfl rfl rfl ?_
  refine G_iload_n 1351 dL_law_1350 rfl rfl rfl ?_
  refine G_iconst 1352 1 dL_law_1351 rfl (by decide) ?_
  refine G_iadd 1353 dL_law_1352 rfl ?_
  refine G_sld 1354 lg.1 lg.2.1 lg.2.2.1 lg.2.2.2 dL_law_1353 rfl h1 ?_
  refine G_aload_n 1355 dL_law_1354 rfl rfl rfl ?_
  refine G_iload_n 1356 dL_law_1355 rfl rfl rfl ?_
  refine G_iconst 1357 2 dL_law_1356 rfl (by decide) ?_
  refine G_iadd 1358 dL_law_1357 rfl ?_
  refine G_sld 1359 lg.1 lg.2.1 lg.2.2.1 lg.2.2.2 dL_law_1358 rfl h2 ?_
  refine G_aload_n 1360 dL_law_1359 rfl rfl rfl ?_
  refine G_iload_n 1361 dL_law_1360 rfl rfl rfl ?_
  refine G_iconst 1362 3 dL_law_1361 rfl (by decide) ?_
  refine G_iadd 1363 dL_law_1362 rfl ?_
  refine G_sld 1364 lg.1 lg.2.1 lg.2.2.1 lg.2.2.2 dL_law_1363 rfl h3 ?_
  refine G_callVI 1367 (S_X10_trade X l O28 a1 (a := (xs (i + 1).toNatClampNeg)) (b := (xs (i + 2).toNatClampNeg)) (v := (xs (i + 3).toNatClampNeg))) dL_law_1364 rfl kX10_trade lk_L_170 rfl O28 (by decide) hRc rfl (Nat.le_of_ble_eq_true rfl) (fun v_2 h_2 q_2 => ?_)
  obtain ⟨ev2, z1_2, n2_0, e2⟩ := q_2
  replace O0 := (e2 _ (by decide)).trans O0
  replace O1 := (e2 _ (by decide)).trans O1
  replace O2 := (e2 _ (by decide)).trans O2
  replace O3 := (e2 _ (by decide)).trans O3
  replace O12 := (e2 _ (by decide)).trans O12
  replace O13 := (e2 _ (by decide)).trans O13
  replace O14 := (e2 _ (by decide)).trans O14
  replace O15 := (e2 _ (by decide)).trans O15
  replace O16 := (e2 _ (by decide)).trans O16
  replace O17 := (e2 _ (by decide)).trans O17
  replace O18 := (e2 _ (by decide)).trans O18
  replace O19 := (e2 _ (by decide)).trans O19
  replace O20 := (e2 _ (by decide)).trans O20
  replace O21 := (e2 _ (by decide)).trans O21
  replace O22 := (e2 _ (by decide)).trans O22
  replace O23 := (e2 _ (by decide)).trans O23
  replace O24 := (e2 _ (by decide)).trans O24
  replace O25 := (e2 _ (by decide)).trans O25
  replace O26 := (e2 _ (by decide)).trans O26
  replace O27 := (e2 _ (by decide)).trans O27
  replace O28 := n2_0
  replace hV : ∀ j, j < 8 → h_2 (j + 4) = some (wB (j + 4) (_ )) := fun j hj => (e2 _ (by omega)).trans (hV j hj)
  obtain rfl : v_1 = v_2 := ev1.symm.trans ev2
  refine G_icmp_eq 1755 1370 dL_law_1367 (by decide) rfl (fun _ => ?_) (fun z => absurd rfl z)
  exact kk _ ⟨_, _, _, _, _, _, _, _, _, _, _, _, _, _, _, _, _, _, _, _, _, _, _, _, _, _, _, _, _, _, ⟨O0, O1, O2, O3, hV, O12, O13, O14, O15, O16, O17, O18, O19, O20, O21, O22, O23, O24, O25, O26, O27, O28⟩, ok⟩
set_option maxHeartbeats 4000000 in
set_option maxRecDepth 100000 in
theorem K_earliest {G : GX} {X : En} {l : Launch} {nc ns : Nat} (hRc : nc ≤ 600000 ∧ ns ≤ 7302250) {b L : Nat} {xs : Nat → Int32} (lg : LG G X b L xs) {i : Int32} (h1 : vp_in (i + 1) L) (h2 : vp_in (i + 2) L) (h3 : vp_in (i + 3) L) (h4 : vp_in (i + 4) L) {h : Hp} (hI : Inv h) (kk : ∀ h', Inv h' → Ag G X l mL_law nc ns 1755 (lwL i) [] h') : Ag G X l mL_law nc ns 1372 (lwL i) [] h := by
  obtain ⟨x, g, r, xi, np, kp, V, t12, n12, k12, t15, n15, im, T, z, W, x13, y14, y16, t17, n17, y18, y20, y22, y23, x24, s25, t25, y26, x27, ⟨O0, O1, O2, O3, hV, O12, O13, O14, O15, O16, O17, O18, O19, O20, O21, O22, O23, O24, O25, O26, O27, O28⟩, ok⟩ := hI
  obtain ⟨a1, a2, a3, a4, a5, a6, a7, a8, a9, a10, a11⟩ := id ok
  refine G_aload_n 1373 dL_law_1372 rfl rfl rfl ?_
  refine G_aload_n 1374 dL_law_1373 rfl rfl rfl ?_
  refine G_iload_n 1375 dL_law_1374 rfl rfl rfl ?_
  refine G_iconst 1376 1 dL_law_1375 rfl (by decide) ?_
  refine G_iadd 1377 dL_law_1376 rfl ?_
  refine G_sld 1378 lg.1 lg.2.1 lg.2.2.1 lg.2.2.2 dL_law_1377 rfl h1 ?_
  refine G_aload_n 1379 dL_law_1378 rfl rfl rfl ?_
  refine G_iload_n 1380 dL_law_1379 rfl rfl rfl ?_
  refine G_iconst 1381 2 dL_law_1380 rfl (by decide) ?_
  refine G_iadd 1382 dL_law_1381 rfl ?_
  refine G_sld 1383 lg.1 lg.2.1 lg.2.2.1 lg.2.2.2 dL_law_1382 rfl h2 ?_
  refine G_callVI 1386 (S_X9_earliest X l O0 O1 a1 O19 O20 (l0 := (xs (i + 1).toNatClampNeg)) (v := (xs (i + 2).toNatClampNeg))) dL_law_1383 rfl kX9_earliest lk_L_171 rfl O0 (by decide) hRc rfl (Nat.le_of_ble_eq_true rfl) (fun v_1 h_1 q_1 => ?_)
  obtain ⟨ev1, z20_1, n1_0, n1_1, e1⟩ := q_1
  replace O0 := n1_0
  replace O1 := (e1 _ (by decide) (by decide)).trans O1
  replace O2 := (e1 _ (by decide) (by decide)).trans O2
  replace O3 := (e1 _ (by decide) (by decide)).trans O3
  replace O12 := (e1 _ (by decide) (by decide)).trans O12
  replace O13 := (e1 _ (by decide) (by decide)).trans O13
  replace O14 := (e1 _ (by decide) (by decide)).trans O14
  replace O15 := (e1 _ (by decide) (by decide)).trans O15
  replace O16 := (e1 _ (by decide) (by decide)).trans O16
  replace O17 := (e1 _ (by decide) (by decide)).trans O17
  replace O18 := (e1 _ (by decide) (by decide)).trans O18
  replace O19 := (e1 _ (by decide) (by decide)).trans O19
  replace O20 := n1_1
  replace O21 := (e1 _ (by decide) (by decide)).trans O21
  replace O22 := (e1 _ (by decide) (by decide)).trans O22
  replace O23 := (e1 _ (by decide) (by decide)).trans O23
  replace O24 := (e1 _ (by decide) (by decide)).trans O24
  replace O25 := (e1 _ (by decide) (by decide)).trans O25
  replace O26 := (e1 _ (by decide) (by decide)).trans O26
  replace O27 := (e1 _ (by decide) (by decide)).trans O27
  replace O28 := (e1 _ (by decide) (by decide)).trans O28
  replace hV : ∀ j, j < 8 → h_1 (j + 4) = some (wB (j + 4) (_ )) := fun j hj => (e1 _ (by omega) (by omega)).trans (hV j hj)
  refine G_aload_n 1387 dL_law_1386 rfl rfl rfl ?_
  refine G_aload_n 1388 dL_law_1387 rfl rfl rfl ?_
  refine G_iload_n 1389 dL_law_1388 rfl rfl rfl ?_
  refine G_iconst 1390 1 dL_law_1389 rfl (by decide) ?_
  refine G_iadd 1391 dL_law_1390 rfl ?_
  refine G_sld 1392 lg.1 lg.2.1 lg.2.2.1 lg.2.2.2 dL_law_1391 rfl h1 ?_
  refine G_aload_n 1393 dL_law_1392 rfl rfl rfl ?_
  refine G_iload_n 1394 dL_law_1393 rfl rfl rfl ?_
  refine G_iconst 1395 2 dL_law_1394 rfl (by decide) ?_
  refine G_iadd 1396 dL_law_1395 rfl ?_
  refine G_sld 1397 lg.1 lg.2.1 lg.2.2.1 lg.2.2.2 dL_law_1396 rfl h2 ?_
  refine G_callVI 1400 (S_X10_earliest X l O28 a1 (l0 := (xs (i + 1).toNatClampNeg)) (v := (xs (i + 2).toNatClampNeg))) dL_law_1397 rfl kX10_earliest lk_L_174 rfl O28 (by decide) hRc rfl (Nat.le_of_ble_eq_true rfl) (fun v_2 h_2 q_2 => ?_)
  obtain ⟨ev2, z1_2, n2_0, e2⟩ := q_2
  replace O0 := (e2 _ (by decide)).trans O0
  replace O1 := (e2 _ (by decide)).trans O1
  replace O2 := (e2 _ (by decide)).trans O2
  replace O3 := (e2 _ (by decide)).trans O3
  replace O12 := (e2 _ (by decide)).trans O12
  replace O13 := (e2 _ (by decide)).trans O13
  replace O14 := (e2 _ (by decide)).trans O14
  replace O15 := (e2 _ (by decide)).trans O15
  replace O16 := (e2 _ (by decide)).trans O16
  replace O17 := (e2 _ (by decide)).trans O17
  replace O18 := (e2 _ (by decide)).trans O18
  replace O19 := (e2 _ (by decide)).trans O19
  replace O20 := (e2 _ (by decide)).trans O20
  replace O21 := (e2 _ (by decide)).trans O21
  replace O22 := (e2 _ (by decide)).trans O22
  replace O23 := (e2 _ (by decide)).trans O23
  replace O24 := (e2 _ (by decide)).trans O24
  replace O25 := (e2 _ (by decide)).trans O25
  replace O26 := (e2 _ (by decide)).trans O26
  replace O27 := (e2 _ (by decide)).trans O27
  replace O28 := n2_0
  replace hV : ∀ j, j < 8 → h_2 (j + 4) = some (wB (j + 4) (_ )) := fun j hj => (e2 _ (by omega)).trans (hV j hj)
  obtain rfl : v_1 = v_2 := ev1.symm.trans ev2
  refine G_icmp_eq 1755 1403 dL_law_1400 (by decide) rfl (fun _ => ?_) (fun z => absurd rfl z)
  exact kk _ ⟨_, _, _, _, _, _, _, _, _, _, _, _, _, _, _, _, _, _, _, _, _, _, _, _, _, _, _, _, _, _, ⟨O0, O1, O2, O3, hV, O12, O13, O14, O15, O16, O17, O18, O19, O20, O21, O22, O23, O24, O25, O26, O27, O28⟩, ok⟩
