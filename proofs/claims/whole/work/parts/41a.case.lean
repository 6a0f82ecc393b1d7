set_option maxHeartbeats 4000000 in
set_option maxRecDepth 100000 in
theorem K_feed {G : GX} {X : En} {l : Launch} {nc ns : Nat} (hRc : nc ≤ 600000 ∧ ns ≤ 7302250) {b L : Nat} {xs : Nat → Int32} (lg : LG G X b L xs) {i : Int32} (h1 : vp_in (i + 1) L) (h2 : vp_in (i + 2) L) (h3 : vp_in (i + 3) L) (h4 : vp_in (i + 4) L) {h : Hp} (hI : Inv h) (kk : ∀ h', Inv h' → Ag G X l mL_law nc ns 1755 (lwL i) [] h') : Ag G X l mL_law nc ns 256 (lwL i) [] h := by
  obtain ⟨x, g, r, xi, np, kp, V, t12, n12, k12, t15, n15, im, T, z, W, x13, y14, y16, t17, n17, y18, y20, y22, y23, x24, s25, t25, y26, x27, ⟨O0, O1, O2, O3, hV, O12, O13, O14, O15, O16, O17, O18, O19, O20, O21, O22, O23, O24, O25, O26, O27, O28⟩, ok⟩ := hI
  obtain ⟨a1, a2, a3, a4, a5, a6, a7, a8, a9, a10, a11⟩ := id ok
  refine G_aload_n 257 dL_law_256 rfl rfl rfl ?_
  refine G_aload_n 258 dL_law_257 rfl rfl rfl ?_
  refine G_iload_n 259 dL_law_258 rfl rfl rfl ?_
  refine G_iconst 260 1 dL_law_259 rfl (by decide) ?_
  refine G_iadd 261 dL_law_260 rfl ?_
  refine G_sld 262 lg.1 lg.2.1 lg.2.2.1 lg.2.2.2 dL_law_261 rfl h1 ?_
  refine G_callVI 265 (S_X9_feed X l O0 O1 a1 O12 a6 (v := (xs (i + 1).toNatClampNeg))) dL_law_262 rfl kX9_feed lk_L_13 rfl O0 (by decide) hRc rfl (Nat.le_of_ble_eq_true rfl) (fun v_1 h_1 q_1 => ?_)
  obtain ⟨ev1, n1_0, n1_1, e1⟩ := q_1
  replace O0 := n1_0
  replace O1 := (e1 _ (by decide) (by decide)).trans O1
  replace O2 := (e1 _ (by decide) (by decide)).trans O2
  replace O3 := (e1 _ (by decide) (by decide)).trans O3
  replace O12 := n1_1
  replace O13 := (e1 _ (by decide) (by decide)).trans O13
  replace O14 := (e1 _ (by decide) (by decide)).trans O14
  replace O15 := (e1 _ (by decide) (by decide)).trans O15
  replace O16 := (e1 _ (by decide) (by decide)).trans O16
  replace O17 := (e1 _ (by decide) (by decide)).trans O17
  replace O18 := (e1 _ (by decide) (by decide)).trans O18
  replace O19 := (e1 _ (by decide) (by decide)).trans O19
  replace O20 := (e1 _ (by decide) (by decide)).trans O20
  replace O21 := (e1 _ (by decide) (by decide)).trans O21
  replace O22 := (e1 _ (by decide) (by decide)).trans O22
  replace O23 := (e1 _ (by decide) (by decide)).trans O23
  replace O24 := (e1 _ (by decide) (by decide)).trans O24
  replace O25 := (e1 _ (by decide) (by decide)).trans O25
  replace O26 := (e1 _ (by decide) (by decide)).trans O26
  replace O27 := (e1 _ (by decide) (by decide)).trans O27
  replace O28 := (e1 _ (by decide) (by decide)).trans O28
  replace hV : ∀ j, j < 8 → h_1 (j + 4) = some (wB (j + 4) (_ )) := fun j hj => (e1 _ (by omega) (by omega)).trans (hV j hj)
  refine G_aload_n 266 dL_law_265 rfl rfl rfl ?_
  refine G_aload_n 267 dL_law_266 rfl rfl rfl ?_
  refine G_iload_n 268 dL_law_267 rfl rfl rfl ?_
  refine G_iconst 269 1 dL_law_268 rfl (by decide) ?_
  refine G_iadd 270 dL_law_269 rfl ?_
  refine G_sld 271 lg.1 lg.2.1 lg.2.2.1 lg.2.2.2 dL_law_270 rfl h1 ?_
  refine G_callVI 274 (S_X10_feed X l O28 a1 a6 (v := (xs (i + 1).toNatClampNeg))) dL_law_271 rfl kX10_feed lk_L_17 rfl O28 (by decide) hRc rfl (Nat.le_of_ble_eq_true rfl) (fun v_2 h_2 q_2 => ?_)
  obtain ⟨ev2, z1_2, n2_0, e2⟩ := q_2
  replace O0 := (e2 _ (by decide)).trans O0
  replace O1 := (e2 _ (by decide)).trans O1
  replace O2 := (e2 _ (by decide)).trans O2
  replace O3 := (e2 _ (by decide)).trans O3
  replace O12 := (e2 _ (by decide)).trans O12
  replace O13 := (e2 _ (by decide)).trans O13
  replace O14 := (e2 _ (by decide)).trans O14
  replace O15 := (e2 _ (by decide)).trans O15
  replace O16 := (e2 _ (by decide)).trans O16
  replace O17 := (e2 _ (by decide)).trans O17
  replace O18 := (e2 _ (by decide)).trans O18
  replace O19 := (e2 _ (by decide)).trans O19
  replace O20 := (e2 _ (by decide)).trans O20
  replace O21 := (e2 _ (by decide)).trans O21
  replace O22 := (e2 _ (by decide)).trans O22
  replace O23 := (e2 _ (by decide)).trans O23
  replace O24 := (e2 _ (by decide)).trans O24
  replace O25 := (e2 _ (by decide)).trans O25
  replace O26 := (e2 _ (by decide)).trans O26
  replace O27 := (e2 _ (by decide)).trans O27
  replace O28 := n2_0
  replace hV : ∀ j, j < 8 → h_2 (j + 4) = some (wB (j + 4) (_ )) := fun j hj => (e2 _ (by omega)).trans (hV j hj)
  obtain rfl : v_1 = v_2 := ev1.symm.trans ev2
  refine G_icmp_eq 1755 277 dL_law_274 (by decide) rfl (fun _ => ?_) (fun z => absurd rfl z)
  exact kk _ ⟨_, _, _, _, _, _, _, _, _, _, _, _, _, _, _, _, _, _, _, _, _, _, _, _, _, _, _, _, _, _, ⟨O0, O1, O2, O3, hV, O12, O13, O14, O15, O16, O17, O18, O19, O20, O21, O22, O23, O24, O25, O26, O27, O28⟩, (ok_feed ok)⟩
set_option maxHeartbeats 4000000 in
set_option maxRecDepth 100000 in
theorem K_mill {G : GX} {X : En} {l : Launch} {nc ns : Nat} (hRc : nc ≤ 600000 ∧ ns ≤ 7302250) {b L : Nat} {xs : Nat → Int32} (lg : LG G X b L xs) {i : Int32} (h1 : vp_in (i + 1) L) (h2 : vp_in (i + 2) L) (h3 : vp_in (i + 3) L) (h4 : vp_in (i + 4) L) {h : Hp} (hI : Inv h) (kk : ∀ h', Inv h' → Ag G X l mL_law nc ns 1755 (lwL i) [] h') : Ag G X l mL_law nc ns 279 (lwL i) [] h := by
  obtain ⟨x, g, r, xi, np, kp, V, t12, n12, k12, t15, n15, im, T, z, W, x13, y14, y16, t17, n17, y18, y20, y22, y23, x24, s25, t25, y26, x27, ⟨O0, O1, O2, O3, hV, O12, O13, O14, O15, O16, O17, O18, O19, O20, O21, O22, O23, O24, O25, O26, O27, O28⟩, ok⟩ := hI
  obtain ⟨a1, a2, a3, a4, a5, a6, a7, a8, a9, a10, a11⟩ := id ok
  refine G_aload_n 280 dL_law_279 rfl rfl rfl ?_
  refine G_callVI 283 (S_X9_mill X l O0 O1 a1 O12 a6 O13 O14 O3) dL_law_280 rfl kX9_mill lk_L_18 rfl O0 (by decide) hRc rfl (Nat.le_of_ble_eq_true rfl) (fun v_1 h_1 q_1 => ?_)
  obtain ⟨ev1, k2_1, x3_1, y2_1, n1_0, n1_1, n1_2, n1_3, n1_4, e1⟩ := q_1
  replace O0 := (e1 _ (by decide) (by decide) (by decide) (by decide) (by decide)).trans O0
  replace O1 := n1_0
  replace O2 := (e1 _ (by decide) (by decide) (by decide) (by decide) (by decide)).trans O2
  replace O3 := n1_4
  replace O12 := n1_1
  replace O13 := n1_2
  replace O14 := n1_3
  replace O15 := (e1 _ (by decide) (by decide) (by decide) (by decide) (by decide)).trans O15
  replace O16 := (e1 _ (by decide) (by decide) (by decide) (by decide) (by decide)).trans O16
  replace O17 := (e1 _ (by decide) (by decide) (by decide) (by decide) (by decide)).trans O17
  replace O18 := (e1 _ (by decide) (by decide) (by decide) (by decide) (by decide)).trans O18
  replace O19 := (e1 _ (by decide) (by decide) (by decide) (by decide) (by decide)).trans O19
  replace O20 := (e1 _ (by decide) (by decide) (by decide) (by decide) (by decide)).trans O20
  replace O21 := (e1 _ (by decide) (by decide) (by decide) (by decide) (by decide)).trans O21
  replace O22 := (e1 _ (by decide) (by decide) (by decide) (by decide) (by decide)).trans O22
  replace O23 := (e1 _ (by decide) (by decide) (by decide) (by decide) (by decide)).trans O23
  replace O24 := (e1 _ (by decide) (by decide) (by decide) (by decide) (by decide)).trans O24
  replace O25 := (e1 _ (by decide) (by decide) (by decide) (by decide) (by decide)).trans O25
  replace O26 := (e1 _ (by decide) (by decide) (by decide) (by decide) (by decide)).trans O26
  replace O27 := (e1 _ (by decide) (by decide) (by decide) (by decide) (by decide)).trans O27
  replace O28 := (e1 _ (by decide) (by decide) (by decide) (by decide) (by decide)).trans O28
  replace hV : ∀ j, j < 8 → h_1 (j + 4) = some (wB (j + 4) (_ )) := fun j hj => (e1 _ (by omega) (by omega) (by omega) (by omega) (by omega)).trans (hV j hj)
  refine G_aload_n 284 dL_law_283 rfl rfl rfl ?_
  refine G_callVI 287 (S_X10_mill X l O28 a1 a6) dL_law_284 rfl kX10_mill lk_L_22 rfl O28 (by decide) hRc rfl (Nat.le_of_ble_eq_true rfl) (fun v_2 h_2 q_2 => ?_)
  obtain ⟨ev2, z1_2, n2_0, e2⟩ := q_2
  replace O0 := (e2 _ (by decide)).trans O0
  replace O1 := (e2 _ (by decide)).trans O1
  replace O2 := (e2 _ (by decide)).trans O2
  replace O3 := (e2 _ (by decide)).trans O3
  replace O12 := (e2 _ (by decide)).trans O12
  replace O13 := (e2 _ (by decide)).trans O13
  replace O14 := (e2 _ (by decide)).trans O14
  replace O15 := (e2 _ (by decide)).trans O15
  replace O16 := (e2 _ (by decide)).trans O16
  replace O17 := (e2 _ (by decide)).trans O17
  replace O18 := (e2 _ (by decide)).trans O18
  replace O19 := (e2 _ (by decide)).trans O19
  replace O20 := (e2 _ (by decide)).trans O20
  replace O21 := (e2 _ (by decide)).trans O21
  replace O22 := (e2 _ (by decide)).trans O22
  replace O23 := (e2 _ (by decide)).trans O23
  replace O24 := (e2 _ (by decide)).trans O24
  replace O25 := (e2 _ (by decide)).trans O25
  replace O26 := (e2 _ (by decide)).trans O26
  replace O27 := (e2 _ (by decide)).trans O27
  replace O28 := n2_0
  replace hV : ∀ j, j < 8 → h_2 (j + 4) = some (wB (j + 4) (_ )) := fun j hj => (e2 _ (by omega)).trans (hV j hj)
  obtain rfl : v_1 = v_2 := ev1.symm.trans ev2
  refine G_icmp_eq 1755 290 dL_law_287 (by decide) rfl (fun _ => ?_) (fun z => absurd rfl z)
  exact kk _ ⟨_, _, _, _, _, _, _, _, _, _, _, _, _, _, _, _, _, _, _, _, _, _, _, _, _, _, _, _, _, _, ⟨O0, O1, O2, O3, hV, O12, O13, O14, O15, O16, O17, O18, O19, O20, O21, O22, O23, O24, O25, O26, O27, O28⟩, (ok_mill ok)⟩
set_option maxHeartbeats 4000000 in
set_option maxRecDepth 100000 in
theorem K_lawOf {G : GX} {X : En} {l : Launch} {nc ns : Nat} (hRc : nc ≤ 600000 ∧ ns ≤ 7302250) {b L : Nat} {xs : Nat → Int32} (lg : LG G X b L xs) {i : Int32} (h1 : vp_in (i + 1) L) (h2 : vp_in (i + 2) L) (h3 : vp_in (i + 3) L) (h4 : vp_in (i + 4) L) {h : Hp} (hI : Inv h) (kk : ∀ h', Inv h' → Ag G X l mL_law nc ns 1755 (lwL i) [] h') : Ag G X l mL_law nc ns 292 (lwL i) [] h := by
  obtain ⟨x, g, r, xi, np, kp, V, t12, n12, k12, t15, n15, im, T, z, W, x13, y14, y16, t17, n17, y18, y20, y22, y23, x24, s25, t25, y26, x27, ⟨O0, O1, O2, O3, hV, O12, O13, O14, O15, O16, O17, O18, O19, O20, O21, O22, O23, O24, O25, O26, O27, O28⟩, ok⟩ := hI
  obtain ⟨a1, a2, a3, a4, a5, a6, a7, a8, a9, a10, a11⟩ := id ok
  refine G_aload_n 293 dL_law_292 rfl rfl rfl ?_
  refine G_aload_n 294 dL_law_293 rfl rfl rfl ?_
  refine G_iload_n 295 dL_law_294 rfl rfl rfl ?_
  refine G_iconst 296 1 dL_law_295 rfl (by decide) ?_
  refine G_iadd 297 dL_law_296 rfl ?_
  refine G_sld 298 lg.1 lg.2.1 lg.2.2.1 lg.2.2.2 dL_law_297 rfl h1 ?_
  refine G_aload_n 299 dL_law_298 rfl rfl rfl ?_
  refine G_iload_n 300 dL_law_299 rfl rfl rfl ?_
  refine G_iconst 301 2 dL_law_300 rfl (by decide) ?_
  refine G_iadd 302 dL_law_301 rfl ?_
  refine G_sld 303 lg.1 lg.2.1 lg.2.2.1 lg.2.2.2 dL_law_302 rfl h2 ?_
  refine G_callVI 306 (S_X9_lawOf X l O0 O1 a1 (l0 := (xs (i + 1).toNatClampNeg)) (v := (xs (i + 2).toNatClampNeg))) dL_law_303 rfl kX9_lawOf lk_L_23 rfl O0 (by decide) hRc rfl (Nat.le_of_ble_eq_true rfl) (fun v_1 h_1 q_1 => ?_)
  obtain ⟨ev1, n1_0, e1⟩ := q_1
  replace O0 := n1_0
  replace O1 := (e1 _ (by decide)).trans O1
  replace O2 := (e1 _ (by decide)).trans O2
  replace O3 := (e1 _ (by decide)).trans O3
  replace O12 := (e1 _ (by decide)).trans O12
  replace O13 := (e1 _ (by decide)).trans O13
  replace O14 := (e1 _ (by decide)).trans O14
  replace O15 := (e1 _ (by decide)).trans O15
  replace O16 := (e1 _ (by decide)).trans O16
  replace O17 := (e1 _ (by decide)).trans O17
  replace O18 := (e1 _ (by decide)).trans O18
  replace O19 := (e1 _ (by decide)).trans O19
  replace O20 := (e1 _ (by decide)).trans O20
  replace O21 := (e1 _ (by decide)).trans O21
  replace O22 := (e1 _ (by decide)).trans O22
  replace O23 := (e1 _ (by decide)).trans O23
  replace O24 := (e1 _ (by decide)).trans O24
  replace O25 := (e1 _ (by decide)).trans O25
  replace O26 := (e1 _ (by decide)).trans O26
  replace O27 := (e1 _ (by decide)).trans O27
  replace O28 := (e1 _ (by decide)).trans O28
  replace hV : ∀ j, j < 8 → h_1 (j + 4) = some (wB (j + 4) (_ )) := fun j hj => (e1 _ (by omega)).trans (hV j hj)
  refine G_aload_n 307 dL_law_306 rfl rfl rfl ?_
  refine G_aload_n 308 dL_law_307 rfl rfl rfl ?_
  refine G_iload_n 309 dL_law_308 rfl rfl rfl ?_
  refine G_iconst 310 1 dL_law_309 rfl (by decide) ?_
  refine G_iadd 311 dL_law_310 rfl ?_
  refine G_sld 312 lg.1 lg.2.1 lg.2.2.1 lg.2.2.2 dL_law_311 rfl h1 ?_
  refine G_aload_n 313 dL_law_312 rfl rfl rfl ?_
  refine G_iload_n 314 dL_law_313 rfl rfl rfl ?_
  refine G_iconst 315 2 dL_law_314 rfl (by decide) ?_
  refine G_iadd 316 dL_law_315 rfl ?_
  refine G_sld 317 lg.1 lg.2.1 lg.2.2.1 lg.2.2.2 dL_law_316 rfl h2 ?_
  refine G_callVI 320 (S_X10_lawOf X l O28 a1 (l0 := (xs (i + 1).toNatClampNeg)) (v := (xs (i + 2).toNatClampNeg))) dL_law_317 rfl kX10_lawOf lk_L_27 rfl O28 (by decide) hRc rfl (Nat.le_of_ble_eq_true rfl) (fun v_2 h_2 q_2 => ?_)
  obtain ⟨ev2, z1_2, n2_0, e2⟩ := q_2
  replace O0 := (e2 _ (by decide)).trans O0
  replace O1 := (e2 _ (by decide)).trans O1
  replace O2 := (e2 _ (by decide)).trans O2
  replace O3 := (e2 _ (by decide)).trans O3
  replace O12 := (e2 _ (by decide)).trans O12
  replace O13 := (e2 _ (by decide)).trans O13
  replace O14 := (e2 _ (by decide)).trans O14
  replace O15 := (e2 _ (by decide)).trans O15
  replace O16 := (e2 _ (by decide)).trans O16
  replace O17 := (e2 _ (by decide)).trans O17
  replace O18 := (e2 _ (by decide)).trans O18
  replace O19 := (e2 _ (by decide)).trans O19
  replace O20 := (e2 _ (by decide)).trans O20
  replace O21 := (e2 _ (by decide)).trans O21
  replace O22 := (e2 _ (by decide)).trans O22
  replace O23 := (e2 _ (by decide)).trans O23
  replace O24 := (e2 _ (by decide)).trans O24
  replace O25 := (e2 _ (by decide)).trans O25
  replace O26 := (e2 _ (by decide)).trans O26
  replace O27 := (e2 _ (by decide)).trans O27
  replace O28 := n2_0
  replace hV : ∀ j, j < 8 → h_2 (j + 4) = some (wB (j + 4) (_ )) := fun j hj => (e2 _ (by omega)).trans (hV j hj)
  obtain rfl : v_1 = v_2 := ev1.symm.trans ev2
  refine G_icmp_eq 1755 323 dL_law_320 (by decide) rfl (fun _ => ?_) (fun z => absurd rfl z)
  exact kk _ ⟨_, _, _, _, _, _, _, _, _, _, _, _, _, _, _, _, _, _, _, _, _, _, _, _, _, _, _, _, _, _, ⟨O0, O1, O2, O3, hV, O12, O13, O14, O15, O16, O17, O18, O19, O20, O21, O22, O23, O24, O25, O26, O27, O28⟩, ok⟩
set_option maxHeartbeats 4000000 in
set_option maxRecDepth 100000 in
theorem K_pockets {G : GX} {X : En} {l : Launch} {nc ns : Nat} (hRc : nc ≤ 600000 ∧ ns ≤ 7302250) {b L : Nat} {xs : Nat → Int32} (lg : LG G X b L xs) {i : Int32} (h1 : vp_in (i + 1) L) (h2 : vp_in (i + 2) L) (h3 : vp_in (i + 3) L) (h4 : vp_in (i + 4) L) {h : Hp} (hI : Inv h) (kk : ∀ h', Inv h' → Ag G X l mL_law nc ns 1755 (lwL i) [] h') : Ag G X l mL_law nc ns 325 (lwL i) [] h := by
  obtain ⟨x, g, r, xi, np, kp, V, t12, n12, k12, t15, n15, im, T, z, W, x13, y14, y16, t17, n17, y18, y20, y22, y23, x24, s25, t25, y26, x27, ⟨O0, O1, O2, O3, hV, O12, O13, O14, O15, O16, O17, O18, O19, O20, O21, O22, O23, O24, O25, O26, O27, O28⟩, ok⟩ := hI
  obtain ⟨a1, a2, a3, a4, a5, a6, a7, a8, a9, a10, a11⟩ := id ok
  refine G_aload_n 326 dL_law_325 rfl rfl rfl ?_
  refine G_aload_n 327 dL_law_326 rfl rfl rfl ?_
  refine G_iload_n 328 dL_law_327 rfl rfl rfl ?_
  refine G_iconst 329 1 dL_law_328 rfl (by decide) ?_
  refine G_iadd 330 dL_law_329 rfl ?_
  refine G_sld 331 lg.1 lg.2.1 lg.2.2.1 lg.2.2.2 dL_law_330 rfl h1 ?_
  refine G_callVI 334 (S_X9_pockets X l O0 O1 a1 (p := (xs (i + 1).toNatClampNeg))) dL_law_331 rfl kX9_pockets lk_L_28 rfl O0 (by decide) hRc rfl (Nat.le_of_ble_eq_true rfl) (fun v_1 h_1 q_1 => ?_)
  obtain ⟨ev1, n1_0, e1⟩ := q_1
  replace O0 := n1_0
  replace O1 := (e1 _ (by decide)).trans O1
  replace O2 := (e1 _ (by decide)).trans O2
  replace O3 := (e1 _ (by decide)).trans O3
  replace O12 := (e1 _ (by decide)).trans O12
  replace O13 := (e1 _ (by decide)).trans O13
  replace O14 := (e1 _ (by decide)).trans O14
  replace O15 := (e1 _ (by decide)).trans O15
  replace O16 := (e1 _ (by decide)).trans O16
  replace O17 := (e1 _ (by decide)).trans O17
  replace O18 := (e1 _ (by decide)).trans O18
  replace O19 := (e1 _ (by decide)).trans O19
  replace O20 := (e1 _ (by decide)).trans O20
  replace O21 := (e1 _ (by decide)).trans O21
  replace O22 := (e1 _ (by decide)).trans O22
  replace O23 := (e1 _ (by decide)).trans O23
  replace O24 := (e1 _ (by decide)).trans O24
  replace O25 := (e1 _ (by decide)).trans O25
  replace O26 := (e1 _ (by decide)).trans O26
  replace O27 := (e1 _ (by decide)).trans O27
  replace O28 := (e1 _ (by decide)).trans O28
  replace hV : ∀ j, j < 8 → h_1 (j + 4) = some (wB (j + 4) (_ )) := fun j hj => (e1 _ (by omega)).trans (hV j hj)
  refine G_aload_n 335 dL_law_334 rfl rfl rfl ?_
  refine G_aload_n 336 dL_law_335 rfl rfl rfl ?_
  refine G_iload_n 337 dL_law_336 rfl rfl rfl ?_
  refine G_iconst 338 1 dL_law_337 rfl (by decide) ?_
  refine G_iadd 339 dL_law_338 rfl ?_
  refine G_sld 340 lg.1 lg.2.1 lg.2.2.1 lg.2.2.2 dL_law_339 rfl h1 ?_
  refine G_callVI 343 (S_X10_pockets X l O28 a1 (p := (xs (i + 1).toNatClampNeg))) dL_law_340 rfl kX10_pockets lk_L_31 rfl O28 (by decide) hRc rfl (Nat.le_of_ble_eq_true rfl) (fun v_2 h_2 q_2 => ?_)
  obtain ⟨ev2, z1_2, n2_0, e2⟩ := q_2
  replace O0 := (e2 _ (by decide)).trans O0
  replace O1 := (e2 _ (by decide)).trans O1
  replace O2 := (e2 _ (by decide)).trans O2
  replace O3 := (e2 _ (by decide)).trans O3
  replace O12 := (e2 _ (by decide)).trans O12
  replace O13 := (e2 _ (by decide)).trans O13
  replace O14 := (e2 _ (by decide)).trans O14
  replace O15 := (e2 _ (by decide)).trans O15
  replace O16 := (e2 _ (by decide)).trans O16
  replace O17 := (e2 _ (by decide)).trans O17
  replace O18 := (e2 _ (by decide)).trans O18
  replace O19 := (e2 _ (by decide)).trans O19
  replace O20 := (e2 _ (by decide)).trans O20
  replace O21 := (e2 _ (by decide)).trans O21
  replace O22 := (e2 _ (by decide)).trans O22
  replace O23 := (e2 _ (by decide)).trans O23
  replace O24 := (e2 _ (by decide)).trans O24
  replace O25 := (e2 _ (by decide)).trans O25
  replace O26 := (e2 _ (by decide)).trans O26
  replace O27 := (e2 _ (by decide)).trans O27
  replace O28 := n2_0
  replace hV : ∀ j, j < 8 → h_2 (j + 4) = some (wB (j + 4) (_ )) := fun j hj => (e2 _ (by omega)).trans (hV j hj)
  obtain rfl : v_1 = v_2 := ev1.symm.trans ev2
  refine G_icmp_eq 1755 346 dL_law_343 (by decide) rfl (fun _ => ?_) (fun z => absurd rfl z)
  exact kk _ ⟨_, _, _, _, _, _, _, _, _, _, _, _, _, _, _, _, _, _, _, _, _, _, _, _, _, _, _, _, _, _, ⟨O0, O1, O2, O3, hV, O12, O13, O14, O15, O16, O17, O18, O19, O20, O21, O22, O23, O24, O25, O26, O27, O28⟩, ok⟩
set_option maxHeartbeats 4000000 in
set_option maxRecDepth 100000 in
theorem K_law {G : GX} {X : En} {l : Launch} {nc ns : Nat} (hRc : nc ≤ 600000 ∧ ns ≤ 7302250) {b L : Nat} {xs : Nat → Int32} (lg : LG G X b L xs) {i : Int32} (h1 : vp_in (i + 1) L) (h2 : vp_in (i + 2) L) (h3 : vp_in (i + 3) L) (h4 : vp_in (i + 4) L) {h : Hp} (hI : Inv h) (kk : ∀ h', Inv h' → Ag G X l mL_law nc ns 1755 (lwL i) [] h') : Ag G X l mL_law nc ns 348 (lwL i) [] h := by
  obtain ⟨x, g, r, xi, np, kp, V, t12, n12, k12, t15, n15, im, T, z, W, x13, y14, y16, t17, n17, y18, y20, y22, y23, x24, s25, t25, y26, x27, ⟨O0, O1, O2, O3, hV, O12, O13, O14, O15, O16, O17, O18, O19, O20, O21, O22, O23, O24, O25, O26, O27, O28⟩, ok⟩ := hI
  obtain ⟨a1, a2, a3, a4, a5, a6, a7, a8, a9, a10, a11⟩ := id ok
  refine G_aload_n 349 dL_law_348 rfl rfl rfl ?_
  refine G_aload_n 350 dL_law_349 rfl rfl rfl ?_
  refine G_iload_n 351 dL_law_350 rfl rfl rfl ?_
  refine G_iconst 352 1 dL_law_351 rfl (by decide) ?_
  refine G_iadd 353 dL_law_352 rfl ?_
  refine G_sld 354 lg.1 lg.2.1 lg.2.2.1 lg.2.2.2 dL_law_353 rfl h1 ?_
  refine G_aload_n 355 dL_law_354 rfl rfl rfl ?_
  refine G_iload_n 356 dL_law_355 rfl rfl rfl ?_
  refine G_iconst 357 2 dL_law_356 rfl (by decide) ?_
  refine G_iadd 358 dL_law_357 rfl ?_
  refine G_sld 359 lg.1 lg.2.1 lg.2.2.1 lg.2.2.2 dL_law_358 rfl h2 ?_
  refine G_aload_n 360 dL_law_359 rfl rfl rfl ?_
  refine G_iload_n 361 dL_law_360 rfl rfl rfl ?_
  refine G_iconst 362 3 dL_law_361 rfl (by decide) ?_
  refine G_iadd 363 dL_law_362 rfl ?_
  refine G_sld 364 lg.1 lg.2.1 lg.2.2.1 lg.2.2.2 dL_law_363 rfl h3 ?_
  refine G_callVI 367 (S_X9_law X l O0 O1 a1 O3 a4 a5 (k := (xs (i + 1).toNatClampNeg)) (f := (xs (i + 2).toNatClampNeg)) (th := (xs (i + 3).toNatClampNeg))) dL_law_364 rfl kX9_law lk_L_32 rfl O0 (by decide) hRc rfl (Nat.le_of_ble_eq_true rfl) (fun v_1 h_1 q_1 => ?_)
  obtain ⟨ev1, n1_0, n1_1, n1_2, e1⟩ := q_1
  replace O0 := n1_0
  replace O1 := n1_1
  replace O2 := (e1 _ (by decide) (by decide) (by decide)).trans O2
  replace O3 := n1_2
  replace O12 := (e1 _ (by decide) (by decide) (by decide)).trans O12
  replace O13 := (e1 _ (by decide) (by decide) (by decide)).trans O13
  replace O14 := (e1 _ (by decide) (by decide) (by decide)).trans O14
  replace O15 := (e1 _ (by decide) (by decide) (by decide)).trans O15
  replace O16 := (e1 _ (by decide) (by decide) (by decide)).trans O16
  replace O17 := (e1 _ (by decide) (by decide) (by decide)).trans O17
  replace O18 := (e1 _ (by decide) (by decide) (by decide)).trans O18
  replace O19 := (e1 _ (by decide) (by decide) (by decide)).trans O19
  replace O20 := (e1 _ (by decide) (by decide) (by decide)).trans O20
  replace O21 := (e1 _ (by decide) (by decide) (by decide)).trans O21
  replace O22 := (e1 _ (by decide) (by decide) (by decide)).trans O22
  replace O23 := (e1 _ (by decide) (by decide) (by decide)).trans O23
  replace O24 := (e1 _ (by decide) (by decide) (by decide)).trans O24
  replace O25 := (e1 _ (by decide) (by decide) (by decide)).trans O25
  replace O26 := (e1 _ (by decide) (by decide) (by decide)).trans O26
  replace O27 := (e1 _ (by decide) (by decide) (by decide)).trans O27
  replace O28 := (e1 _ (by decide) (by decide) (by decide)).trans O28
  replace hV : ∀ j, j < 8 → h_1 (j + 4) = some (wB (j + 4) (_ )) := fun j hj => (e1 _ (by omega) (by omega) (by omega)).trans (hV j hj)
  refine G_aload_n 368 dL_law_367 rfl rfl rfl ?_
  refine G_aload_n 369 dL_law_368 rfl rfl rfl ?_
  refine G_iload_n 370 dL_law_369 rfl rfl rfl ?_
  refine G_iconst 371 1 dL_law_370 rfl (by decide) ?_
  refine G_iadd 372 dL_law_371 rfl ?_
  refine G_sld 373 lg.1 lg.2.1 lg.2.2.1 lg.2.2.2 dL_law_372 rfl h1 ?_
  refine G_aload_n 374 dL_law_373 rfl rfl rfl ?_
  refine G_iload_n 375 dL_law_374 rfl rfl rfl ?_
  refine G_iconst 376 2 dL_law_375 rfl (by decide) ?_
  refine G_iadd 377 dL_law_376 rfl ?_
  refine G_sld 378 lg.1 lg.2.1 lg.2.2.1 lg.2.2.2 dL_law_377 rfl h2 ?_
  refine G_aload_n 379 dL_law_378 rfl rfl rfl ?_
  refine G_iload_n 380 dL_law_379 rfl rfl rfl ?_
  refine G_iconst 381 3 dL_law_380 rfl (by decide) ?_
  refine G_iadd 382 dL_law_381 rfl ?_
  refine G_sld 383 lg.1 lg.2.1 lg.2.2.1 lg.2.2.2 dL_law_382 rfl h3 ?_
  refine G_callVI 386 (S_X10_law X l O28 a1 (k := (xs (i + 1).toNatClampNeg)) (f := (xs (i + 2).toNatClampNeg)) (th := (xs (i + 3).toNatClampNeg))) dL_law_383 rfl kX10_law lk_L_36 rfl O28 (by decide) hRc rfl (Nat.le_of_ble_eq_true rfl) (fun v_2 h_2 q_2 => ?_)
  obtain ⟨ev2, z1_2, n2_0, e2⟩ := q_2
  replace O0 := (e2 _ (by decide)).trans O0
  replace O1 := (e2 _ (by decide)).trans O1
  replace O2 := (e2 _ (by decide)).trans O2
  replace O3 := (e2 _ (by decide)).trans O3
  replace O12 := (e2 _ (by decide)).trans O12
  replace O13 := (e2 _ (by decide)).trans O13
  replace O14 := (e2 _ (by decide)).trans O14
  replace O15 := (e2 _ (by decide)).trans O15
  replace O16 := (e2 _ (by decide)).trans O16
  replace O17 := (e2 _ (by decide)).trans O17
  replace O18 := (e2 _ (by decide)).trans O18
  replace O19 := (e2 _ (by decide)).trans O19
  replace O20 := (e2 _ (by decide)).trans O20
  replace O21 := (e2 _ (by decide)).trans O21
  replace O22 := (e2 _ (by decide)).trans O22
  replace O23 := (e2 _ (by decide)).trans O23
  replace O24 := (e2 _ (by decide)).trans O24
  replace O25 := (e2 _ (by decide)).trans O25
  replace O26 := (e2 _ (by decide)).trans O26
  replace O27 := (e2 _ (by decide)).trans O27
  replace O28 := n2_0
  replace hV : ∀ j, j < 8 → h_2 (j + 4) = some (wB (j + 4) (_ )) := fun j hj => (e2 _ (by omega)).trans (hV j hj)
  obtain rfl : v_1 = v_2 := ev1.symm.trans ev2
  refine G_icmp_eq 1755 389 dL_law_386 (by decide) rfl (fun _ => ?_) (fun z => absurd rfl z)
  exact kk _ ⟨_, _, _, _, _, _, _, _, _, _, _, _, _, _, _, _, _, _, _, _, _, _, _, _, _, _, _, _, _, _, ⟨O0, O1, O2, O3, hV, O12, O13, O14, O15, O16, O17, O18, O19, O20, O21, O22, O23, O24, O25, O26, O27, O28⟩, (ok_drop ok (W_law a1))⟩
set_option maxHeartbeats 4000000 in
set_option maxRecDepth 100000 in
theorem K_person {G : GX} {X : En} {l : Launch} {nc ns : Nat} (hRc : nc ≤ 600000 ∧ ns ≤ 7302250) {b L : Nat} {xs : Nat → Int32} (lg : LG G X b L xs) {i : Int32} (h1 : vp_in (i + 1) L) (h2 : vp_in (i + 2) L) (h3 : vp_in (i + 3) L) (h4 : vp_in (i + 4) L) {h : Hp} (hI : Inv h) (kk : ∀ h', Inv h' → Ag G X l mL_law nc ns 1755 (lwL i) [] h') : Ag G X l mL_law nc ns 391 (lwL i) [] h := by
  obtain ⟨x, g, r, xi, np, kp, V, t12, n12, k12, t15, n15, im, T, z, W, x13, y14, y16, t17, n17, y18, y20, y22, y23, x24, s25, t25, y26, x27, ⟨O0, O1, O2, O3, hV, O12, O13, O14, O15, O16, O17, O18, O19, O20, O21, O22, O23, O24, O25, O26, O27, O28⟩, ok⟩ := hI
  obtain ⟨a1, a2, a3, a4, a5, a6, a7, a8, a9, a10, a11⟩ := id ok
  refine G_aload_n 392 dL_law_391 rfl rfl rfl ?_
  refine G_aload_n 393 dL_law_392 rfl rfl rfl ?_
  refine G_iload_n 394 dL_law_393 rfl rfl rfl ?_
  refine G_iconst 395 1 dL_law_394 rfl (by decide) ?_
  refine G_iadd 396 dL_law_395 rfl ?_
  refine G_sld 397 lg.1 lg.2.1 lg.2.2.1 lg.2.2.2 dL_law_396 rfl h1 ?_
  refine G_callVI 400 (S_X9_person X l O0 O1 a1 O3 a4 a5 (v := (xs (i + 1).toNatClampNeg))) dL_law_397 rfl kX9_person lk_L_37 rfl O0 (by decide) hRc rfl (Nat.le_of_ble_eq_true rfl) (fun v_1 h_1 q_1 => ?_)
  obtain ⟨ev1, n1_0, n1_1, n1_2, e1⟩ := q_1
  replace O0 := n1_0
  replace O1 := n1_1
  replace O2 := (e1 _ (by decide) (by decide) (by decide)).trans O2
  replace O3 := n1_2
  replace O12 := (e1 _ (by decide) (by decide) (by decide)).trans O12
  replace O13 := (e1 _ (by decide) (by decide) (by decide)).trans O13
  replace O14 := (e1 _ (by decide) (by decide) (by decide)).trans O14
  replace O15 := (e1 _ (by decide) (by decide) (by decide)).trans O15
  replace O16 := (e1 _ (by decide) (by decide) (by decide)).trans O16
  replace O17 := (e1 _ (by decide) (by decide) (by decide)).trans O17
  replace O18 := (e1 _ (by decide) (by decide) (by decide)).trans O18
  replace O19 := (e1 _ (by decide) (by decide) (by decide)).trans O19
  replace O20 := (e1 _ (by decide) (by decide) (by decide)).trans O20
  replace O21 := (e1 _ (by decide) (by decide) (by decide)).trans O21
  replace O22 := (e1 _ (by decide) (by decide) (by decide)).trans O22
  replace O23 := (e1 _ (by decide) (by decide) (by decide)).trans O23
  replace O24 := (e1 _ (by decide) (by decide) (by decide)).trans O24
  replace O25 := (e1 _ (by decide) (by decide) (by decide)).trans O25
  replace O26 := (e1 _ (by decide) (by decide) (by decide)).trans O26
  replace O27 := (e1 _ (by decide) (by decide) (by decide)).trans O27
  replace O28 := (e1 _ (by decide) (by decide) (by decide)).trans O28
  replace hV : ∀ j, j < 8 → h_1 (j + 4) = some (wB (j + 4) (_ )) := fun j hj => (e1 _ (by omega) (by omega) (by omega)).trans (hV j hj)
  refine G_aload_n 401 dL_law_400 rfl rfl rfl ?_
  refine G_aload_n 402 dL_law_401 rfl rfl rfl ?_
  refine G_iload_n 403 dL_law_402 rfl rfl rfl ?_
  refine G_iconst 404 1 dL_law_403 rfl (by decide) ?_
  refine G_iadd 405 dL_law_404 rfl ?_
  refine G_sld 406 lg.1 lg.2.1 lg.2.2.1 lg.2.2.2 dL_law_405 rfl h1 ?_
  refine G_callVI 409 (S_X10_person X l O28 a1 (v := (xs (i + 1).toNatClampNeg))) dL_law_406 rfl kX10_person lk_L_40 rfl O28 (by decide) hRc rfl (Nat.le_of_ble_eq_true rfl) (fun v_2 h_2 q_2 => ?_)
  obtain ⟨ev2, z1_2, n2_0, e2⟩ := q_2
  replace O0 := (e2 _ (by decide)).trans O0
  replace O1 := (e2 _ (by decide)).trans O1
  replace O2 := (e2 _ (by decide)).trans O2
  replace O3 := (e2 _ (by decide)).trans O3
  replace O12 := (e2 _ (by decide)).trans O12
  replace O13 := (e2 _ (by decide)).trans O13
  replace O14 := (e2 _ (by decide)).trans O14
  replace O15 := (e2 _ (by decide)).trans O15
  replace O16 := (e2 _ (by decide)).trans O16
  replace O17 := (e2 _ (by decide)).trans O17
  replace O18 := (e2 _ (by decide)).trans O18
  replace O19 := (e2 _ (by decide)).trans O19
  replace O20 := (e2 _ (by decide)).trans O20
  replace O21 := (e2 _ (by decide)).trans O21
  replace O22 := (e2 _ (by decide)).trans O22
  replace O23 := (e2 _ (by decide)).trans O23
  replace O24 := (e2 _ (by decide)).trans O24
  replace O25 := (e2 _ (by decide)).trans O25
  replace O26 := (e2 _ (by decide)).trans O26
  replace O27 := (e2 _ (by decide)).trans O27
  replace O28 := n2_0
  replace hV : ∀ j, j < 8 → h_2 (j + 4) = some (wB (j + 4) (_ )) := fun j hj => (e2 _ (by omega)).trans (hV j hj)
  obtain rfl : v_1 = v_2 := ev1.symm.trans ev2
  refine G_icmp_eq 1755 412 dL_law_409 (by decide) rfl (fun _ => ?_) (fun z => absurd rfl z)
  exact kk _ ⟨_, _, _, _, _, _, _, _, _, _, _, _, _, _, _, _, _, _, _, _, _, _, _, _, _, _, _, _, _, _, ⟨O0, O1, O2, O3, hV, O12, O13, O14, O15, O16, O17, O18, O19, O20, O21, O22, O23, O24, O25, O26, O27, O28⟩, (ok_drop ok (W_pers a1))⟩
set_option maxHeartbeats 4000000 in
set_option maxRecDepth 100000 in
theorem K_takes {G : GX} {X : En} {l : Launch} {nc ns : Nat} (hRc : nc ≤ 600000 ∧ ns ≤ 7302250) {b L : Nat} {xs : Nat → Int32} (lg : LG G X b L xs) {i : Int32} (h1 : vp_in (i + 1) L) (h2 : vp_in (i + 2) L) (h3 : vp_in (i + 3) L) (h4 : vp_in (i + 4) L) {h : Hp} (hI : Inv h) (kk : ∀ h', Inv h' → Ag G X l mL_law nc ns 1755 (lwL i) [] h') : Ag G X l mL_law nc ns 414 (lwL i) [] h := by
  obtain ⟨x, g, r, xi, np, kp, V, t12, n12, k12, t15, n15, im, T, z, W, x13, y14, y16, t17, n17, y18, y20, y22, y23, x24, s25, t25, y26, x27, ⟨O0, O1, O2, O3, hV, O12, O13, O14, O15, O16, O17, O18, O19, O20, O21, O22, O23, O24, O25, O26, O27, O28⟩, ok⟩ := hI
  obtain ⟨a1, a2, a3, a4, a5, a6, a7, a8, a9, a10, a11⟩ := id ok
  refine G_aload_n 415 dL_law_414 rfl rfl rfl ?_
  refine G_aload_n 416 dL_law_415 rfl rfl rfl ?_
  refine G_iload_n 417 dL_law_416 rfl rfl rfl ?_
  refine G_iconst 418 1 dL_law_417 rfl (by decide) ?_
  refine G_iadd 419 dL_law_418 rfl ?_
  refine G_sld 420 lg.1 lg.2.1 lg.2.2.1 lg.2.2.2 dL_law_419 rfl h1 ?_
  refine G_aload_n 421 dL_law_420 rfl rfl rfl ?_
  refine G_iload_n 422 dL_law_421 rfl rfl rfl ?_
  refine G_iconst 423 2 dL_law_422 rfl (by decide) ?_
  refine G_iadd 424 dL_law_423 rfl ?_
  refine G_sld 425 lg.1 lg.2.1 lg.2.2.1 lg.2.2.2 dL_law_424 rfl h2 ?_
  refine G_callVI 428 (S_X9_takes X l O0 O1 a1 O3 a4 a5 (hV np a4) (p := (xs (i + 1).toNatClampNeg)) (t := (xs (i + 2).toNatClampNeg))) dL_law_425 rfl kX9_takes lk_L_41 rfl O0 (by decide) hRc rfl (Nat.le_of_ble_eq_true rfl) (fun v_1 h_1 q_1 => ?_)
  obtain ⟨ev1, n1_0, n1_1, n1_2, n1_3, e1⟩ := q_1
  replace O0 := n1_0
  replace O1 := n1_1
  replace O2 := (e1 _ (by decide) (by decide) (by decide) (by omega)).trans O2
  replace O3 := n1_2
  replace O12 := (e1 _ (by decide) (by decide) (by decide) (by omega)).trans O12
  replace O13 := (e1 _ (by decide) (by decide) (by decide) (by omega)).trans O13
  replace O14 := (e1 _ (by decide) (by decide) (by decide) (by omega)).trans O14
  replace O15 := (e1 _ (by decide) (by decide) (by decide) (by omega)).trans O15
  replace O16 := (e1 _ (by decide) (by decide) (by decide) (by omega)).trans O16
  replace O17 := (e1 _ (by decide) (by decide) (by decide) (by omega)).trans O17
  replace O18 := (e1 _ (by decide) (by decide) (by decide) (by omega)).trans O18
  replace O19 := (e1 _ (by decide) (by decide) (by decide) (by omega)).trans O19
  replace O20 := (e1 _ (by decide) (by decide) (by decide) (by omega)).trans O20
  replace O21 := (e1 _ (by decide) (by decide) (by decide) (by omega)).trans O21
  replace O22 := (e1 _ (by decide) (by decide) (by decide) (by omega)).trans O22
  replace O23 := (e1 _ (by decide) (by decide) (by decide) (by omega)).trans O23
  replace O24 := (e1 _ (by decide) (by decide) (by decide) (by omega)).trans O24
  replace O25 := (e1 _ (by decide) (by decide) (by decide) (by omega)).trans O25
  replace O26 := (e1 _ (by decide) (by decide) (by decide) (by omega)).trans O26
  replace O27 := (e1 _ (by decide) (by decide) (by decide) (by omega)).trans O27
  replace O28 := (e1 _ (by decide) (by decide) (by decide) (by omega)).trans O28
  have hV : ∀ j, j < 8 → h_1 (j + 4) = some (wB (j + 4) ((fun j => if j = np then _ else V j) j)) := fun j hj => by
    by_cases q : j = np
    · subst q; simp only [if_true]; exact n1_3
    · simp only [if_neg q]; exact (e1 _ (by omega) (by omega) (by omega) (by omega)).trans (hV j hj)
  refine G_aload_n 429 dL_law_428 rfl rfl rfl ?_
  refine G_aload_n 430 dL_law_429 rfl rfl rfl ?_
  refine G_iload_n 431 dL_law_430 rfl rfl rfl ?_
  refine G_iconst 432 1 dL_law_431 rfl (by decide) ?_
  refine G_iadd 433 dL_law_432 rfl ?_
  refine G_sld 434 lg.1 lg.2.1 lg.2.2.1 lg.2.2.2 dL_law_433 rfl h1 ?_
  refine G_aload_n 435 dL_law_434 rfl rfl rfl ?_
  refine G_iload_n 436 dL_law_435 rfl rfl rfl ?_
  refine G_iconst 437 2 dL_law_436 rfl (by decide) ?_
  refine G_iadd 438 dL_law_437 rfl ?_
  refine G_sld 439 lg.1 lg.2.1 lg.2.2.1 lg.2.2.2 dL_law_438 rfl h2 ?_
  refine G_callVI 442 (S_X10_takes X l O28 a1 a10 a5 (p := (xs (i + 1).toNatClampNeg)) (t := (xs (i + 2).toNatClampNeg))) dL_law_439 rfl kX10_takes lk_L_44 rfl O28 (by decide) hRc rfl (Nat.le_of_ble_eq_true rfl) (fun v_2 h_2 q_2 => ?_)
  obtain ⟨ev2, T2_2, z1_2, n2_0, x2_0, e2⟩ := q_2
  replace O0 := (e2 _ (by decide)).trans O0
  replace O1 := (e2 _ (by decide)).trans O1
  replace O2 := (e2 _ (by decide)).trans O2
  replace O3 := (e2 _ (by decide)).trans O3
  replace O12 := (e2 _ (by decide)).trans O12
  replace O13 := (e2 _ (by decide)).trans O13
  replace O14 := (e2 _ (by decide)).trans O14
  replace O15 := (e2 _ (by decide)).trans O15
  replace O16 := (e2 _ (by decide)).trans O16
  replace O17 := (e2 _ (by decide)).trans O17
  replace O18 := (e2 _ (by decide)).trans O18
  replace O19 := (e2 _ (by decide)).trans O19
  replace O20 := (e2 _ (by decide)).trans O20
  replace O21 := (e2 _ (by decide)).trans O21
  replace O22 := (e2 _ (by decide)).trans O22
  replace O23 := (e2 _ (by decide)).trans O23
  replace O24 := (e2 _ (by decide)).trans O24
  replace O25 := (e2 _ (by decide)).trans O25
  replace O26 := (e2 _ (by decide)).trans O26
  replace O27 := (e2 _ (by decide)).trans O27
  replace O28 := n2_0
  replace hV : ∀ j, j < 8 → h_2 (j + 4) = some (wB (j + 4) (_ )) := fun j hj => (e2 _ (by omega)).trans (hV j hj)
  obtain rfl : v_1 = v_2 := ev1.symm.trans ev2
  refine G_icmp_eq 1755 445 dL_law_442 (by decide) rfl (fun _ => ?_) (fun z => absurd rfl z)
  exact kk _ ⟨_, _, _, _, _, _, _, _, _, _, _, _, _, _, _, _, _, _, _, _, _, _, _, _, _, _, _, _, _, _, ⟨O0, O1, O2, O3, hV, O12, O13, O14, O15, O16, O17, O18, O19, O20, O21, O22, O23, O24, O25, O26, O27, O28⟩, (ok_keep ok (W_take a1) x2_0)⟩
set_option maxHeartbeats 4000000 in
set_option maxRecDepth 100000 in
theorem K_brings {G : GX} {X : En} {l : Launch} {nc ns : Nat} (hRc : nc ≤ 600000 ∧ ns ≤ 7302250) {b L : Nat} {xs : Nat → Int32} (lg : LG G X b L xs) {i : Int32} (h1 : vp_in (i + 1) L) (h2 : vp_in (i + 2) L) (h3 : vp_in (i + 3) L) (h4 : vp_in (i + 4) L) {h : Hp} (hI : Inv h) (kk : ∀ h', Inv h' → Ag G X l mL_law nc ns 1755 (lwL i) [] h') : Ag G X l mL_law nc ns 447 (lwL i) [] h := by
  obtain ⟨x, g, r, xi, np, kp, V, t12, n12, k12, t15, n15, im, T, z, W, x13, y14, y16, t17, n17, y18, y20, y22, y23, x24, s25, t25, y26, x27, ⟨O0, O1, O2, O3, hV, O12, O13, O14, O15, O16, O17, O18, O19, O20, O21, O22, O23, O24, O25, O26, O27, O28⟩, ok⟩ := hI
  obtain ⟨a1, a2, a3, a4, a5, a6, a7, a8, a9, a10, a11⟩ := id ok
  refine G_aload_n 448 dL_law_447 rfl rfl rfl ?_
  refine G_aload_n 449 dL_law_448 rfl rfl rfl ?_
  refine G_iload_n 450 dL_law_449 rfl rfl rfl ?_
  refine G_iconst 451 1 dL_law_450 rfl (by decide) ?_
  refine G_iadd 452 dL_law_451 rfl ?_
  refine G_sld 453 lg.1 lg.2.1 lg.2.2.1 lg.2.2.2 dL_law_452 rfl h1 ?_
  refine G_aload_n 454 dL_law_453 rfl rfl rfl ?_
  refine G_iload_n 455 dL_law_454 rfl rfl rfl ?_
  refine G_iconst 456 2 dL_law_455 rfl (by decide) ?_
  refine G_iadd 457 dL_law_456 rfl ?_
  refine G_sld 458 lg.1 lg.2.1 lg.2.2.1 lg.2.2.2 dL_law_457 rfl h2 ?_
  refine G_callVI 461 (S_X9_brings X l O0 O1 a1 O3 a4 a5 (hV np a4) (p := (xs (i + 1).toNatClampNeg)) (t := (xs (i + 2).toNatClampNeg))) dL_law_458 rfl kX9_brings lk_L_45 rfl O0 (by decide) hRc rfl (Nat.le_of_ble_eq_true rfl) (fun v_1 h_1 q_1 => ?_)
  obtain ⟨ev1, n1_0, n1_1, n1_2, n1_3, e1⟩ := q_1
  replace O0 := n1_0
  replace O1 := n1_1
  replace O2 := (e1 _ (by decide) (by decide) (by decide) (by omega)).trans O2
  replace O3 := n1_2
  replace O12 := (e1 _ (by decide) (by decide) (by decide) (by omega)).trans O12
  replace O13 := (e1 _ (by decide) (by decide) (by decide) (by omega)).trans O13
  replace O14 := (e1 _ (by decide) (by decide) (by decide) (by omega)).trans O14
  replace O15 := (e1 _ (by decide) (by decide) (by decide) (by omega)).trans O15
  replace O16 := (e1 _ (by decide) (by decide) (by decide) (by omega)).trans O16
  replace O17 := (e1 _ (by decide) (by decide) (by decide) (by omega)).trans O17
  replace O18 := (e1 _ (by decide) (by decide) (by decide) (by omega)).trans O18
  replace O19 := (e1 _ (by decide) (by decide) (by decide) (by omega)).trans O19
  replace O20 := (e1 _ (by decide) (by decide) (by decide) (by omega)).trans O20
  replace O21 := (e1 _ (by decide) (by decide) (by decide) (by omega)).trans O21
  replace O22 := (e1 _ (by decide) (by decide) (by decide) (by omega)).trans O22
  replace O23 := (e1 _ (by decide) (by decide) (by decide) (by omega)).trans O23
  replace O24 := (e1 _ (by decide) (by decide) (by decide) (by omega)).trans O24
  replace O25 := (e1 _ (by decide) (by decide) (by decide) (by omega)).trans O25
  replace O26 := (e1 _ (by decide) (by decide) (by decide) (by omega)).trans O26
  replace O27 := (e1 _ (by decide) (by decide) (by decide) (by omega)).trans O27
  replace O28 := (e1 _ (by decide) (by decide) (by decide) (by omega)).trans O28
  have hV : ∀ j, j < 8 → h_1 (j + 4) = some (wB (j + 4) ((fun j => if j = np then _ else V j) j)) := fun j hj => by
    by_cases q : j = np
    · subst q; simp only [if_true]; exact n1_3
    · simp only [if_neg q]; exact (e1 _ (by omega) (by omega) (by omega) (by omega)).trans (hV j hj)
  refine G_aload_n 462 dL_law_461 rfl rfl rfl ?_
  refine G_aload_n 463 dL_law_462 rfl rfl rfl ?_
  refine G_iload_n 464 dL_law_463 rfl rfl rfl ?_
  refine G_iconst 465 1 dL_law_464 rfl (by decide) ?_
  refine G_iadd 466 dL_law_465 rfl ?_
  refine G_sld 467 lg.1 lg.2.1 lg.2.2.1 lg.2.2.2 dL_law_466 rfl h1 ?_
  refine G_aload_n 468 dL_law_467 rfl rfl rfl ?_
  refine G_iload_n 469 dL_law_468 rfl rfl rfl ?_
  refine G_iconst 470 2 dL_law_469 rfl (by decide) ?_
  refine G_iadd 471 dL_law_470 rfl ?_
  refine G_sld 472 lg.1 lg.2.1 lg.2.2.1 lg.2.2.2 dL_law_471 rfl h2 ?_
  refine G_callVI 475 (S_X10_brings X l O28 a1 a10 a5 (p := (xs (i + 1).toNatClampNeg)) (t := (xs (i + 2).toNatClampNeg))) dL_law_472 rfl kX10_brings lk_L_48 rfl O28 (by decide) hRc rfl (Nat.le_of_ble_eq_true rfl) (fun v_2 h_2 q_2 => ?_)
  obtain ⟨ev2, T2_2, z1_2, n2_0, x2_0, e2⟩ := q_2
  replace O0 := (e2 _ (by decide)).trans O0
  replace O1 := (e2 _ (by decide)).trans O1
  replace O2 := (e2 _ (by decide)).trans O2
  replace O3 := (e2 _ (by decide)).trans O3
  replace O12 := (e2 _ (by decide)).trans O12
  replace O13 := (e2 _ (by decide)).trans O13
  replace O14 := (e2 _ (by decide)).trans O14
  replace O15 := (e2 _ (by decide)).trans O15
  replace O16 := (e2 _ (by decide)).trans O16
  replace O17 := (e2 _ (by decide)).trans O17
  replace O18 := (e2 _ (by decide)).trans O18
  replace O19 := (e2 _ (by decide)).trans O19
  replace O20 := (e2 _ (by decide)).trans O20
  replace O21 := (e2 _ (by decide)).trans O21
  replace O22 := (e2 _ (by decide)).trans O22
  replace O23 := (e2 _ (by decide)).trans O23
  replace O24 := (e2 _ (by decide)).trans O24
  replace O25 := (e2 _ (by decide)).trans O25
  replace O26 := (e2 _ (by decide)).trans O26
  replace O27 := (e2 _ (by decide)).trans O27
  replace O28 := n2_0
  replace hV : ∀ j, j < 8 → h_2 (j + 4) = some (wB (j + 4) (_ )) := fun j hj => (e2 _ (by omega)).trans (hV j hj)
  obtain rfl : v_1 = v_2 := ev1.symm.trans ev2
  refine G_icmp_eq 1755 478 dL_law_475 (by decide) rfl (fun _ => ?_) (fun z => absurd rfl z)
  exact kk _ ⟨_, _, _, _, _, _, _, _, _, _, _, _, _, _, _, _, _, _, _, _, _, _, _, _, _, _, _, _, _, _, ⟨O0, O1, O2, O3, hV, O12, O13, O14, O15, O16, O17, O18, O19, O20, O21, O22, O23, O24, O25, O26, O27, O28⟩, (ok_keep ok (W_brg a1) x2_0)⟩
set_option maxHeartbeats 4000000 in
set_option maxRecDepth 100000 in
theorem K_turn {G : GX} {X : En} {l : Launch} {nc ns : Nat} (hRc : nc ≤ 600000 ∧ ns ≤ 7302250) {b L : Nat} {xs : Nat → Int32} (lg : LG G X b L xs) {i : Int32} (h1 : vp_in (i + 1) L) (h2 : vp_in (i + 2) L) (h3 : vp_in (i + 3) L) (h4 : vp_in (i + 4) L) {h : Hp} (hI : Inv h) (kk : ∀ h', Inv h' → Ag G X l mL_law nc ns 1755 (lwL i) [] h') : Ag G X l mL_law nc ns 480 (lwL i) [] h := by
  obtain ⟨x, g, r, xi, np, kp, V, t12, n12, k12, t15, n15, im, T, z, W, x13, y14, y16, t17, n17, y18, y20, y22, y23, x24, s25, t25, y26, x27, ⟨O0, O1, O2, O3, hV, O12, O13, O14, O15, O16, O17, O18, O19, O20, O21, O22, O23, O24, O25, O26, O27, O28⟩, ok⟩ := hI
  obtain ⟨a1, a2, a3, a4, a5, a6, a7, a8, a9, a10, a11⟩ := id ok
  refine G_aload_n 481 dL_law_480 rfl rfl rfl ?_
  refine G_aload_n 482 dL_law_481 rfl rfl rfl ?_
  refine G_iload_n 483 dL_law_482 rfl rfl rfl ?_
  refine G_iconst 484 1 dL_law_483 rfl (by decide) ?_
  refine G_iadd 485 dL_law_484 rfl ?_
  refine G_sld 486 lg.1 lg.2.1 lg.2.2.1 lg.2.2.2 dL_law_485 rfl h1 ?_
  refine G_aload_n 487 dL_law_486 rfl rfl rfl ?_
  refine G_iload_n 488 dL_law_487 rfl rfl rfl ?_
  refine G_iconst 489 2 dL_law_488 rfl (by decide) ?_
  refine G_iadd 490 dL_law_489 rfl ?_
  refine G_sld 491 lg.1 lg.2.1 lg.2.2.1 lg.2.2.2 dL_law_490 rfl h2 ?_
  refine G_aload_n 492 dL_law_491 rfl rfl rfl ?_
  refine G_iload_n 493 dL_law_492 rfl rfl rfl ?_
  refine G_iconst 494 3 dL_law_493 rfl (by decide) ?_
  refine G_iadd 495 dL_law_494 rfl ?_
  refine G_sld 496 lg.1 lg.2.1 lg.2.2.1 lg.2.2.2 dL_law_495 rfl h3 ?_
  refine G_callVI 499 (S_X9_turn X l O0 O1 a1 O3 a4 a5 (hV np a4) (l0 := (xs (i + 1).toNatClampNeg)) (k := (xs (i + 2).toNatClampNeg)) (f := (xs (i + 3).toNatClampNeg))) dL_law_496 rfl kX9_turn lk_L_49 rfl O0 (by decide) hRc rfl (Nat.le_of_ble_eq_true rfl) (fun v_1 h_1 q_1 => ?_)
  obtain ⟨ev1, n1_0, n1_1, n1_2, n1_3, e1⟩ := q_1
  replace O0 := n1_0
  replace O1 := n1_1
  replace O2 := (e1 _ (by decide) (by decide) (by decide) (by omega)).trans O2
  replace O3 := n1_2
  replace O12 := (e1 _ (by decide) (by decide) (by decide) (by omega)).trans O12
  replace O13 := (e1 _ (by decide) (by decide) (by decide) (by omega)).trans O13
  replace O14 := (e1 _ (by decide) (by decide) (by decide) (by omega)).trans O14
  replace O15 := (e1 _ (by decide) (by decide) (by decide) (by omega)).trans O15
  replace O16 := (e1 _ (by decide) (by decide) (by decide) (by omega)).trans O16
  replace O17 := (e1 _ (by decide) (by decide) (by decide) (by omega)).trans O17
  replace O18 := (e1 _ (by decide) (by decide) (by decide) (by omega)).trans O18
  replace O19 := (e1 _ (by decide) (by decide) (by decide) (by omega)).trans O19
  replace O20 := (e1 _ (by decide) (by decide) (by decide) (by omega)).trans O20
  replace O21 := (e1 _ (by decide) (by decide) (by decide) (by omega)).trans O21
  replace O22 := (e1 _ (by decide) (by decide) (by decide) (by omega)).trans O22
  replace O23 := (e1 _ (by decide) (by decide) (by decide) (by omega)).trans O23
  replace O24 := (e1 _ (by decide) (by decide) (by decide) (by omega)).trans O24
  replace O25 := (e1 _ (by decide) (by decide) (by decide) (by omega)).trans O25
  replace O26 := (e1 _ (by decide) (by decide) (by decide) (by omega)).trans O26
  replace O27 := (e1 _ (by decide) (by decide) (by decide) (by omega)).trans O27
  replace O28 := (e1 _ (by decide) (by decide) (by decide) (by omega)).trans O28
  have hV : ∀ j, j < 8 → h_1 (j + 4) = some (wB (j + 4) ((fun j => if j = np then _ else V j) j)) := fun j hj => by
    by_cases q : j = np
    · subst q; simp only [if_true]; exact n1_3
    · simp only [if_neg q]; exact (e1 _ (by omega) (by omega) (by omega) (by omega)).trans (hV j hj)
  refine G_aload_n 500 dL_law_499 rfl rfl rfl ?_
  refine G_aload_n 501 dL_law_500 rfl rfl rfl ?_
  refine G_iload_n 502 dL_law_501 rfl rfl rfl ?_
  refine G_iconst 503 1 dL_law_502 rfl (by decide) ?_
  refine G_iadd 504 dL_law_503 rfl ?_
  refine G_sld 505 lg.1 lg.2.1 lg.2.2.1 lg.2.2.2 dL_law_504 rfl h1 ?_
  refine G_aload_n 506 dL_law_505 rfl rfl rfl ?_
  refine G_iload_n 507 dL_law_506 rfl rfl rfl ?_
  refine G_iconst 508 2 dL_law_507 rfl (by decide) ?_
  refine G_iadd 509 dL_law_508 rfl ?_
  refine G_sld 510 lg.1 lg.2.1 lg.2.2.1 lg.2.2.2 dL_law_509 rfl h2 ?_
  refine G_aload_n 511 dL_law_510 rfl rfl rfl ?_
  refine G_iload_n 512 dL_law_511 rfl rfl rfl ?_
  refine G_iconst 513 3 dL_law_512 rfl (by decide) ?_
  refine G_iadd 514 dL_law_513 rfl ?_
  refine G_sld 515 lg.1 lg.2.1 lg.2.2.1 lg.2.2.2 dL_law_514 rfl h3 ?_
  refine G_callVI 518 (S_X10_turn X l O28 a1 a10 a5 (l0 := (xs (i + 1).toNatClampNeg)) (k := (xs (i + 2).toNatClampNeg)) (f := (xs (i + 3).toNatClampNeg))) dL_law_515 rfl kX10_turn lk_L_52 rfl O28 (by decide) hRc rfl (Nat.le_of_ble_eq_true rfl) (fun v_2 h_2 q_2 => ?_)
  obtain ⟨ev2, T2_2, z1_2, n2_0, x2_0, e2⟩ := q_2
  replace O0 := (e2 _ (by decide)).trans O0
  replace O1 := (e2 _ (by decide)).trans O1
  replace O2 := (e2 _ (by decide)).trans O2
  replace O3 := (e2 _ (by decide)).trans O3
  replace O12 := (e2 _ (by decide)).trans O12
  replace O13 := (e2 _ (by decide)).trans O13
  replace O14 := (e2 _ (by decide)).trans O14
  replace O15 := (e2 _ (by decide)).trans O15
  replace O16 := (e2 _ (by decide)).trans O16
  replace O17 := (e2 _ (by decide)).trans O17
  replace O18 := (e2 _ (by decide)).trans O18
  replace O19 := (e2 _ (by decide)).trans O19
  replace O20 := (e2 _ (by decide)).trans O20
  replace O21 := (e2 _ (by decide)).trans O21
  replace O22 := (e2 _ (by decide)).trans O22
  replace O23 := (e2 _ (by decide)).trans O23
  replace O24 := (e2 _ (by decide)).trans O24
  replace O25 := (e2 _ (by decide)).trans O25
  replace O26 := (e2 _ (by decide)).trans O26
  replace O27 := (e2 _ (by decide)).trans O27
  replace O28 := n2_0
  replace hV : ∀ j, j < 8 → h_2 (j + 4) = some (wB (j + 4) (_ )) := fun j hj => (e2 _ (by omega)).trans (hV j hj)
  obtain rfl : v_1 = v_2 := ev1.symm.trans ev2
  refine G_icmp_eq 1755 521 dL_law_518 (by decide) rfl (fun _ => ?_) (fun z => absurd rfl z)
  exact kk _ ⟨_, _, _, _, _, _, _, _, _, _, _, _, _, _, _, _, _, _, _, _, _, _, _, _, _, _, _, _, _, _, ⟨O0, O1, O2, O3, hV, O12, O13, O14, O15, O16, O17, O18, O19, O20, O21, O22, O23, O24, O25, O26, O27, O28⟩, (ok_keep ok (W_turn a1) x2_0)⟩
set_option maxHeartbeats 4000000 in
set_option maxRecDepth 100000 in
theorem K_clears {G : GX} {X : En} {l : Launch} {nc ns : Nat} (hRc : nc ≤ 600000 ∧ ns ≤ 7302250) {b L : Nat} {xs : Nat → Int32} (lg : LG G X b L xs) {i : Int32} (h1 : vp_in (i + 1) L) (h2 : vp_in (i + 2) L) (h3 : vp_in (i + 3) L) (h4 : vp_in (i + 4) L) {h : Hp} (hI : Inv h) (kk : ∀ h', Inv h' → Ag G X l mL_law nc ns 1755 (lwL i) [] h') : Ag G X l mL_law nc ns 523 (lwL i) [] h := by
  obtain ⟨x, g, r, xi, np, kp, V, t12, n12, k12, t15, n15, im, T, z, W, x13, y14, y16, t17, n17, y18, y20, y22, y23, x24, s25, t25, y26, x27, ⟨O0, O1, O2, O3, hV, O12, O13, O14, O15, O16, O17, O18, O19, O20, O21, O22, O23, O24, O25, O26, O27, O28⟩, ok⟩ := hI
  obtain ⟨a1, a2, a3, a4, a5, a6, a7, a8, a9, a10, a11⟩ := id ok
  refine G_aload_n 524 dL_law_523 rfl rfl rfl ?_
  refine G_callVI 527 (S_X9_clears X l O0 O1 O3) dL_law_524 rfl kX9_clears lk_L_53 rfl O0 (by decide) hRc rfl (Nat.le_of_ble_eq_true rfl) (fun v_1 h_1 q_1 => ?_)
  obtain ⟨ev1, n1_0, n1_1, e1⟩ := q_1
  replace O0 := (e1 _ (by decide) (by decide)).trans O0
  replace O1 := n1_0
  replace O2 := (e1 _ (by decide) (by decide)).trans O2
  replace O3 := n1_1
  replace O12 := (e1 _ (by decide) (by decide)).trans O12
  replace O13 := (e1 _ (by decide) (by decide)).trans O13
  replace O14 := (e1 _ (by decide) (by decide)).trans O14
  replace O15 := (e1 _ (by decide) (by decide)).trans O15
  replace O16 := (e1 _ (by decide) (by decide)).trans O16
  replace O17 := (e1 _ (by decide) (by decide)).trans O17
  replace O18 := (e1 _ (by decide) (by decide)).trans O18
  replace O19 := (e1 _ (by decide) (by decide)).trans O19
  replace O20 := (e1 _ (by decide) (by decide)).trans O20
  replace O21 := (e1 _ (by decide) (by decide)).trans O21
  replace O22 := (e1 _ (by decide) (by decide)).trans O22
  replace O23 := (e1 _ (by decide) (by decide)).trans O23
  replace O24 := (e1 _ (by decide) (by decide)).trans O24
  replace O25 := (e1 _ (by decide) (by decide)).trans O25
  replace O26 := (e1 _ (by decide) (by decide)).trans O26
  replace O27 := (e1 _ (by decide) (by decide)).trans O27
  replace O28 := (e1 _ (by decide) (by decide)).trans O28
  replace hV : ∀ j, j < 8 → h_1 (j + 4) = some (wB (j + 4) (_ )) := fun j hj => (e1 _ (by omega) (by omega)).trans (hV j hj)
  refine G_aload_n 528 dL_law_527 rfl rfl rfl ?_
  refine G_callVI 531 (S_X10_clears X l O28) dL_law_528 rfl kX10_clears lk_L_56 rfl O28 (by decide) hRc rfl (Nat.le_of_ble_eq_true rfl) (fun v_2 h_2 q_2 => ?_)
  obtain ⟨ev2, z1_2, n2_0, e2⟩ := q_2
  replace O0 := (e2 _ (by decide)).trans O0
  replace O1 := (e2 _ (by decide)).trans O1
  replace O2 := (e2 _ (by decide)).trans O2
  replace O3 := (e2 _ (by decide)).trans O3
  replace O12 := (e2 _ (by decide)).trans O12
  replace O13 := (e2 _ (by decide)).trans O13
  replace O14 := (e2 _ (by decide)).trans O14
  replace O15 := (e2 _ (by decide)).trans O15
  replace O16 := (e2 _ (by decide)).trans O16
  replace O17 := (e2 _ (by decide)).trans O17
  replace O18 := (e2 _ (by decide)).trans O18
  replace O19 := (e2 _ (by decide)).trans O19
  replace O20 := (e2 _ (by decide)).trans O20
  replace O21 := (e2 _ (by decide)).trans O21
  replace O22 := (e2 _ (by decide)).trans O22
  replace O23 := (e2 _ (by decide)).trans O23
  replace O24 := (e2 _ (by decide)).trans O24
  replace O25 := (e2 _ (by decide)).trans O25
  replace O26 := (e2 _ (by decide)).trans O26
  replace O27 := (e2 _ (by decide)).trans O27
  replace O28 := n2_0
  replace hV : ∀ j, j < 8 → h_2 (j + 4) = some (wB (j + 4) (_ )) := fun j hj => (e2 _ (by omega)).trans (hV j hj)
  obtain rfl : v_1 = v_2 := ev1.symm.trans ev2
  refine G_icmp_eq 1755 534 dL_law_531 (by decide) rfl (fun _ => ?_) (fun z => absurd rfl z)
  exact kk _ ⟨_, _, _, _, _, _, _, _, _, _, _, _, _, _, _, _, _, _, _, _, _, _, _, _, _, _, _, _, _, _, ⟨O0, O1, O2, O3, hV, O12, O13, O14, O15, O16, O17, O18, O19, O20, O21, O22, O23, O24, O25, O26, O27, O28⟩, (ok_clears ok)⟩
set_option maxHeartbeats 4000000 in
set_option maxRecDepth 100000 in
theorem K_day {G : GX} {X : En} {l : Launch} {nc ns : Nat} (hRc : nc ≤ 600000 ∧ ns ≤ 7302250) {b L : Nat} {xs : Nat → Int32} (lg : LG G X b L xs) {i : Int32} (h1 : vp_in (i + 1) L) (h2 : vp_in (i + 2) L) (h3 : vp_in (i + 3) L) (h4 : vp_in (i + 4) L) {h : Hp} (hI : Inv h) (kk : ∀ h', Inv h' → Ag G X l mL_law nc ns 1755 (lwL i) [] h') : Ag G X l mL_law nc ns 536 (lwL i) [] h := by
  obtain ⟨x, g, r, xi, np, kp, V, t12, n12, k12, t15, n15, im, T, z, W, x13, y14, y16, t17, n17, y18, y20, y22, y23, x24, s25, t25, y26, x27, ⟨O0, O1, O2, O3, hV, O12, O13, O14, O15, O16, O17, O18, O19, O20, O21, O22, O23, O24, O25, O26, O27, O28⟩, ok⟩ := hI
  obtain ⟨a1, a2, a3, a4, a5, a6, a7, a8, a9, a10, a11⟩ := id ok
  refine G_aload_n 537 dL_law_536 rfl rfl rfl ?_
  refine G_callVI 540 (S_X9_day X l O0 O1 a1 O3 a4 a5 (hV np a4) O16) dL_law_537 rfl kX9_day lk_L_57 rfl O0 (by decide) hRc rfl (Nat.le_of_ble_eq_true rfl) (fun v_1 h_1 q_1 => ?_)
  obtain ⟨ev1, z16_1, n1_0, n1_1, n1_2, n1_3, n1_4, e1⟩ := q_1
  replace O0 := n1_0
  replace O1 := n1_1
  replace O2 := (e1 _ (by decide) (by decide) (by decide) (by omega) (by decide)).trans O2
  replace O3 := n1_2
  replace O12 := (e1 _ (by decide) (by decide) (by decide) (by omega) (by decide)).trans O12
  replace O13 := (e1 _ (by decide) (by decide) (by decide) (by omega) (by decide)).trans O13
  replace O14 := (e1 _ (by decide) (by decide) (by decide) (by omega) (by decide)).trans O14
  replace O15 := (e1 _ (by decide) (by decide) (by decide) (by omega) (by decide)).trans O15
  replace O16 := n1_4
  replace O17 := (e1 _ (by decide) (by decide) (by decide) (by omega) (by decide)).trans O17
  replace O18 := (e1 _ (by decide) (by decide) (by decide) (by omega) (by decide)).trans O18
  replace O19 := (e1 _ (by decide) (by decide) (by decide) (by omega) (by decide)).trans O19
  replace O20 := (e1 _ (by decide) (by decide) (by decide) (by omega) (by decide)).trans O20
  replace O21 := (e1 _ (by decide) (by decide) (by decide) (by omega) (by decide)).trans O21
  replace O22 := (e1 _ (by decide) (by decide) (by decide) (by omega) (by decide)).trans O22
  replace O23 := (e1 _ (by decide) (by decide) (by decide) (by omega) (by decide)).trans O23
  replace O24 := (e1 _ (by decide) (by decide) (by decide) (by omega) (by decide)).trans O24
  replace O25 := (e1 _ (by decide) (by decide) (by decide) (by omega) (by decide)).trans O25
  replace O26 := (e1 _ (by decide) (by decide) (by decide) (by omega) (by decide)).trans O26
  replace O27 := (e1 _ (by decide) (by decide) (by decide) (by omega) (by decide)).trans O27
  replace O28 := (e1 _ (by decide) (by decide) (by decide) (by omega) (by decide)).trans O28
  have hV : ∀ j, j < 8 → h_1 (j + 4) = some (wB (j + 4) ((fun j => if j = np then _ else V j) j)) := fun j hj => by
    by_cases q : j = np
    · subst q; simp only [if_true]; exact n1_3
    · simp only [if_neg q]; exact (e1 _ (by omega) (by omega) (by omega) (by omega) (by omega)).trans (hV j hj)
  refine G_aload_n 541 dL_law_540 rfl rfl rfl ?_
  refine G_callVI 544 (S_X10_day X l O28 a1 a10 a5) dL_law_541 rfl kX10_day lk_L_60 rfl O28 (by decide) hRc rfl (Nat.le_of_ble_eq_true rfl) (fun v_2 h_2 q_2 => ?_)
  obtain ⟨ev2, T2_2, z1_2, n2_0, x2_0, e2⟩ := q_2
  replace O0 := (e2 _ (by decide)).trans O0
  replace O1 := (e2 _ (by decide)).trans O1
  replace O2 := (e2 _ (by decide)).trans O2
  replace O3 := (e2 _ (by decide)).trans O3
  replace O12 := (e2 _ (by decide)).trans O12
  replace O13 := (e2 _ (by decide)).trans O13
  replace O14 := (e2 _ (by decide)).trans O14
  replace O15 := (e2 _ (by decide)).trans O15
  replace O16 := (e2 _ (by decide)).trans O16
  replace O17 := (e2 _ (by decide)).trans O17
  replace O18 := (e2 _ (by decide)).trans O18
  replace O19 := (e2 _ (by decide)).trans O19
  replace O20 := (e2 _ (by decide)).trans O20
  replace O21 := (e2 _ (by decide)).trans O21
  replace O22 := (e2 _ (by decide)).trans O22
  replace O23 := (e2 _ (by decide)).trans O23
  replace O24 := (e2 _ (by decide)).trans O24
  replace O25 := (e2 _ (by decide)).trans O25
  replace O26 := (e2 _ (by decide)).trans O26
  replace O27 := (e2 _ (by decide)).trans O27
  replace O28 := n2_0
  replace hV : ∀ j, j < 8 → h_2 (j + 4) = some (wB (j + 4) (_ )) := fun j hj => (e2 _ (by omega)).trans (hV j hj)
  obtain rfl : v_1 = v_2 := ev1.symm.trans ev2
  refine G_icmp_eq 1755 547 dL_law_544 (by decide) rfl (fun _ => ?_) (fun z => absurd rfl z)
  exact kk _ ⟨_, _, _, _, _, _, _, _, _, _, _, _, _, _, _, _, _, _, _, _, _, _, _, _, _, _, _, _, _, _, ⟨O0, O1, O2, O3, hV, O12, O13, O14, O15, O16, O17, O18, O19, O20, O21, O22, O23, O24, O25, O26, O27, O28⟩, (ok_keep ok (W_day a1) x2_0)⟩
set_option maxHeartbeats 4000000 in
set_option maxRecDepth 100000 in
theorem K_back {G : GX} {X : En} {l : Launch} {nc ns : Nat} (hRc : nc ≤ 600000 ∧ ns ≤ 7302250) {b L : Nat} {xs : Nat → Int32} (lg : LG G X b L xs) {i : Int32} (h1 : vp_in (i + 1) L) (h2 : vp_in (i + 2) L) (h3 : vp_in (i + 3) L) (h4 : vp_in (i + 4) L) {h : Hp} (hI : Inv h) (kk : ∀ h', Inv h' → Ag G X l mL_law nc ns 1755 (lwL i) [] h') : Ag G X l mL_law nc ns 549 (lwL i) [] h := by
  obtain ⟨x, g, r, xi, np, kp, V, t12, n12, k12, t15, n15, im, T, z, W, x13, y14, y16, t17, n17, y18, y20, y22, y23, x24, s25, t25, y26, x27, ⟨O0, O1, O2, O3, hV, O12, O13, O14, O15, O16, O17, O18, O19, O20, O21, O22, O23, O24, O25, O26, O27, O28⟩, ok⟩ := hI
  obtain ⟨a1, a2, a3, a4, a5, a6, a7, a8, a9, a10, a11⟩ := id ok
  cases kp with
  | zero =>
    refine G_aload_n 550 dL_law_549 rfl rfl rfl ?_
    refine G_callVI 553 (S_X9_back_0 X l O0 O1 O3) dL_law_550 rfl kX9_back lk_L_61 rfl O0 (by decide) hRc rfl (Nat.le_of_ble_eq_true rfl) (fun v_1 h_1 q_1 => ?_)
    obtain ⟨ev1, n1_0, e1⟩ := q_1
    replace O0 := n1_0
    replace O1 := (e1 _ (by decide)).trans O1
    replace O2 := (e1 _ (by decide)).trans O2
    replace O3 := (e1 _ (by decide)).trans O3
    replace O12 := (e1 _ (by decide)).trans O12
    replace O13 := (e1 _ (by decide)).trans O13
    replace O14 := (e1 _ (by decide)).trans O14
    replace O15 := (e1 _ (by decide)).trans O15
    replace O16 := (e1 _ (by decide)).trans O16
    replace O17 := (e1 _ (by decide)).trans O17
    replace O18 := (e1 _ (by decide)).trans O18
    replace O19 := (e1 _ (by decide)).trans O19
    replace O20 := (e1 _ (by decide)).trans O20
    replace O21 := (e1 _ (by decide)).trans O21
    replace O22 := (e1 _ (by decide)).trans O22
    replace O23 := (e1 _ (by decide)).trans O23
    replace O24 := (e1 _ (by decide)).trans O24
    replace O25 := (e1 _ (by decide)).trans O25
    replace O26 := (e1 _ (by decide)).trans O26
    replace O27 := (e1 _ (by decide)).trans O27
    replace O28 := (e1 _ (by decide)).trans O28
    replace hV : ∀ j, j < 8 → h_1 (j + 4) = some (wB (j + 4) (_ )) := fun j hj => (e1 _ (by omega)).trans (hV j hj)
    refine G_aload_n 554 dL_law_553 rfl rfl rfl ?_
    refine G_callVI 557 (S_X10_back_0 X l O28 (tn := 0)) dL_law_554 rfl kX10_back lk_L_64 rfl O28 (by decide) hRc rfl (Nat.le_of_ble_eq_true rfl) (fun v_2 h_2 q_2 => ?_)
    obtain ⟨ev2, z1_2, n2_0, e2⟩ := q_2
    replace O0 := (e2 _ (by decide)).trans O0
    replace O1 := (e2 _ (by decide)).trans O1
    replace O2 := (e2 _ (by decide)).trans O2
    replace O3 := (e2 _ (by decide)).trans O3
    replace O12 := (e2 _ (by decide)).trans O12
    replace O13 := (e2 _ (by decide)).trans O13
    replace O14 := (e2 _ (by decide)).trans O14
    replace O15 := (e2 _ (by decide)).trans O15
    replace O16 := (e2 _ (by decide)).trans O16
    replace O17 := (e2 _ (by decide)).trans O17
    replace O18 := (e2 _ (by decide)).trans O18
    replace O19 := (e2 _ (by decide)).trans O19
    replace O20 := (e2 _ (by decide)).trans O20
    replace O21 := (e2 _ (by decide)).trans O21
    replace O22 := (e2 _ (by decide)).trans O22
    replace O23 := (e2 _ (by decide)).trans O23
    replace O24 := (e2 _ (by decide)).trans O24
    replace O25 := (e2 _ (by decide)).trans O25
    replace O26 := (e2 _ (by decide)).trans O26
    replace O27 := (e2 _ (by decide)).trans O27
    replace O28 := n2_0
    replace hV : ∀ j, j < 8 → h_2 (j + 4) = some (wB (j + 4) (_ )) := fun j hj => (e2 _ (by omega)).trans (hV j hj)
    obtain rfl : v_1 = v_2 := ev1.symm.trans ev2
    refine G_icmp_eq 1755 560 dL_law_557 (by decide) rfl (fun _ => ?_) (fun z => absurd rfl z)
    exact kk _ ⟨_, _, _, _, _, _, _, _, _, _, _, _, _, _, _, _, _, _, _, _, _, _, _, _, _, _, _, _, _, _, ⟨O0, O1, O2, O3, hV, O12, O13, O14, O15, O16, O17, O18, O19, O20, O21, O22, O23, O24, O25, O26, O27, O28⟩, ok⟩
  | succ k =>
    obtain ⟨m, hm, rfl⟩ := nx_of a4
    obtain ⟨eW, ok2⟩ := ok_back hm ok
    refine G_aload_n 550 dL_law_549 rfl rfl rfl ?_
    refine G_callVI 553 (S_X9_back_s X l O0 O1 O3 hm (by omega) (hV m hm)) dL_law_550 rfl kX9_back lk_L_61 rfl O0 (by decide) hRc rfl (Nat.le_of_ble_eq_true rfl) (fun v_1 h_1 q_1 => ?_)
    obtain ⟨ev1, n1_0, n1_1, e1⟩ := q_1
    replace O0 := (e1 _ (by decide) (by decide)).trans O0
    replace O1 := n1_0
    replace O2 := (e1 _ (by decide) (by decide)).trans O2
    replace O3 := n1_1
    replace O12 := (e1 _ (by decide) (by decide)).trans O12
    replace O13 := (e1 _ (by decide) (by decide)).trans O13
    replace O14 := (e1 _ (by decide) (by decide)).trans O14
    replace O15 := (e1 _ (by decide) (by decide)).trans O15
    replace O16 := (e1 _ (by decide) (by decide)).trans O16
    replace O17 := (e1 _ (by decide) (by decide)).trans O17
    replace O18 := (e1 _ (by decide) (by decide)).trans O18
    replace O19 := (e1 _ (by decide) (by decide)).trans O19
    replace O20 := (e1 _ (by decide) (by decide)).trans O20
    replace O21 := (e1 _ (by decide) (by decide)).trans O21
    replace O22 := (e1 _ (by decide) (by decide)).trans O22
    replace O23 := (e1 _ (by decide) (by decide)).trans O23
    replace O24 := (e1 _ (by decide) (by decide)).trans O24
    replace O25 := (e1 _ (by decide) (by decide)).trans O25
    replace O26 := (e1 _ (by decide) (by decide)).trans O26
    replace O27 := (e1 _ (by decide) (by decide)).trans O27
    replace O28 := (e1 _ (by decide) (by decide)).trans O28
    replace hV : ∀ j, j < 8 → h_1 (j + 4) = some (wB (j + 4) (_ )) := fun j hj => (e1 _ (by omega) (by omega)).trans (hV j hj)
    refine G_aload_n 554 dL_law_553 rfl rfl rfl ?_
    refine G_callVI 557 (S_X10_back_s X l O28 a10 (by omega)) dL_law_554 rfl kX10_back lk_L_64 rfl O28 (by decide) hRc rfl (Nat.le_of_ble_eq_true rfl) (fun v_2 h_2 q_2 => ?_)
    obtain ⟨ev2, z1_2, n2_0, e2⟩ := q_2
    replace O0 := (e2 _ (by decide)).trans O0
    replace O1 := (e2 _ (by decide)).trans O1
    replace O2 := (e2 _ (by decide)).trans O2
    replace O3 := (e2 _ (by decide)).trans O3
    replace O12 := (e2 _ (by decide)).trans O12
    replace O13 := (e2 _ (by decide)).trans O13
    replace O14 := (e2 _ (by decide)).trans O14
    replace O15 := (e2 _ (by decide)).trans O15
    replace O16 := (e2 _ (by decide)).trans O16
    replace O17 := (e2 _ (by decide)).trans O17
    replace O18 := (e2 _ (by decide)).trans O18
    replace O19 := (e2 _ (by decide)).trans O19
    replace O20 := (e2 _ (by decide)).trans O20
    replace O21 := (e2 _ (by decide)).trans O21
    replace O22 := (e2 _ (by decide)).trans O22
    replace O23 := (e2 _ (by decide)).trans O23
    replace O24 := (e2 _ (by decide)).trans O24
    replace O25 := (e2 _ (by decide)).trans O25
    replace O26 := (e2 _ (by decide)).trans O26
    replace O27 := (e2 _ (by decide)).trans O27
    replace O28 := n2_0
    replace hV : ∀ j, j < 8 → h_2 (j + 4) = some (wB (j + 4) (_ )) := fun j hj => (e2 _ (by omega)).trans (hV j hj)
    obtain rfl : v_1 = v_2 := ev1.symm.trans ev2
    refine G_icmp_eq 1755 560 dL_law_557 (by decide) rfl (fun _ => ?_) (fun z => absurd rfl z)
    rw [eW] at O28
    exact kk _ ⟨_, _, _, _, _, _, _, _, _, _, _, _, _, _, _, _, _, _, _, _, _, _, _, _, _, _, _, _, _, _, ⟨O0, O1, O2, O3, hV, O12, O13, O14, O15, O16, O17, O18, O19, O20, O21, O22, O23, O24, O25, O26, O27, O28⟩, ok2⟩
set_option maxHeartbeats 4000000 in
set_option maxRecDepth 100000 in
theorem K_at {G : GX} {X : En} {l : Launch} {nc ns : Nat} (hRc : nc ≤ 600000 ∧ ns ≤ 7302250) {b L : Nat} {xs : Nat → Int32} (lg : LG G X b L xs) {i : Int32} (h1 : vp_in (i + 1) L) (h2 : vp_in (i + 2) L) (h3 : vp_in (i + 3) L) (h4 : vp_in (i + 4) L) {h : Hp} (hI : Inv h) (kk : ∀ h', Inv h' → Ag G X l mL_law nc ns 1755 (lwL i) [] h') : Ag G X l mL_law nc ns 562 (lwL i) [] h := by
  obtain ⟨x, g, r, xi, np, kp, V, t12, n12, k12, t15, n15, im, T, z, W, x13, y14, y16, t17, n17, y18, y20, y22, y23, x24, s25, t25, y26, x27, ⟨O0, O1, O2, O3, hV, O12, O13, O14, O15, O16, O17, O18, O19, O20, O21, O22, O23, O24, O25, O26, O27, O28⟩, ok⟩ := hI
  obtain ⟨a1, a2, a3, a4, a5, a6, a7, a8, a9, a10, a11⟩ := id ok
  refine G_aload_n 563 dL_law_562 rfl rfl rfl ?_
  refine G_aload_n 564 dL_law_563 rfl rfl rfl ?_
  refine G_iload_n 565 dL_law_564 rfl rfl rfl ?_
  refine G_iconst 566 1 dL_law_565 rfl (by decide) ?_
  refine G_iadd 567 dL_law_566 rfl ?_
  refine G_sld 568 lg.1 lg.2.1 lg.2.2.1 lg.2.2.2 dL_law_567 rfl h1 ?_
  refine G_aload_n 569 dL_law_568 rfl rfl rfl ?_
  refine G_iload_n 570 dL_law_569 rfl rfl rfl ?_
  refine G_iconst 571 2 dL_law_570 rfl (by decide) ?_
  refine G_iadd 572 dL_law_571 rfl ?_
  refine G_sld 573 lg.1 lg.2.1 lg.2.2.1 lg.2.2.2 dL_law_572 rfl h2 ?_
  refine G_aload_n 574 dL_law_573 rfl rfl rfl ?_
  refine G_iload_n 575 dL_law_574 rfl rfl rfl ?_
  refine G_iconst 576 3 dL_law_575 rfl (by decide) ?_
  refine G_iadd 577 dL_law_576 rfl ?_
  refine G_sld 578 lg.1 lg.2.1 lg.2.2.1 lg.2.2.2 dL_law_577 rfl h3 ?_
  refine G_callVI 581 (S_X9_at X l O0 O1 a1 O16 (p := (xs (i + 1).toNatClampNeg)) (hr := (xs (i + 2).toNatClampNeg)) (v := (xs (i + 3).toNatClampNeg))) dL_law_578 rfl kX9_at lk_L_65 rfl O0 (by decide) hRc rfl (Nat.le_of_ble_eq_true rfl) (fun v_1 h_1 q_1 => ?_)
  obtain ⟨ev1, z16_1, n1_0, n1_1, e1⟩ := q_1
  replace O0 := n1_0
  replace O1 := (e1 _ (by decide) (by decide)).trans O1
  replace O2 := (e1 _ (by decide) (by decide)).trans O2
  replace O3 := (e1 _ (by decide) (by decide)).trans O3
  replace O12 := (e1 _ (by decide) (by decide)).trans O12
  replace O13 := (e1 _ (by decide) (by decide)).trans O13
  replace O14 := (e1 _ (by decide) (by decide)).trans O14
  replace O15 := (e1 _ (by decide) (by decide)).trans O15
  replace O16 := n1_1
  replace O17 := (e1 _ (by decide) (by decide)).trans O17
  replace O18 := (e1 _ (by decide) (by decide)).trans O18
  replace O19 := (e1 _ (by decide) (by decide)).trans O19
  replace O20 := (e1 _ (by decide) (by decide)).trans O20
  replace O21 := (e1 _ (by decide) (by decide)).trans O21
  replace O22 := (e1 _ (by decide) (by decide)).trans O22
  replace O23 := (e1 _ (by decide) (by decide)).trans O23
  replace O24 := (e1 _ (by decide) (by decide)).trans O24
  replace O25 := (e1 _ (by decide) (by decide)).trans O25
  replace O26 := (e1 _ (by decide) (by decide)).trans O26
  replace O27 := (e1 _ (by decide) (by decide)).trans O27
  replace O28 := (e1 _ (by decide) (by decide)).trans O28
  replace hV : ∀ j, j < 8 → h_1 (j + 4) = some (wB (j + 4) (_ )) := fun j hj => (e1 _ (by omega) (by omega)).trans (hV j hj)
  refine G_aload_n 582 dL_law_581 rfl rfl rfl ?_
  refine G_aload_n 583 dL_law_582 rfl rfl rfl ?_
  refine G_iload_n 584 dL_law_583 rfl rfl rfl ?_
  refine G_iconst 585 1 dL_law_584 rfl (by decide) ?_
  refine G_iadd 586 dL_law_585 rfl ?_
  refine G_sld 587 lg.1 lg.2.1 lg.2.2.1 lg.2.2.2 dL_law_586 rfl h1 ?_
  refine G_aload_n 588 dL_law_587 rfl rfl rfl ?_
  refine G_iload_n 589 dL_law_588 rfl rfl rfl ?_
  refine G_iconst 590 2 dL_law_589 rfl (by decide) ?_
  refine G_iadd 591 dL_law_590 rfl ?_
  refine G_sld 592 lg.1 lg.2.1 lg.2.2.1 lg.2.2.2 dL_law_591 rfl h2 ?_
  refine G_aload_n 593 dL_law_592 rfl rfl rfl ?_
  refine G_iload_n 594 dL_law_593 rfl rfl rfl ?_
  refine G_iconst 595 3 dL_law_594 rfl (by decide) ?_
  refine G_iadd 596 dL_law_595 rfl ?_
  refine G_sld 597 lg.1 lg.2.1 lg.2.2.1 lg.2.2.2 dL_law_596 rfl h3 ?_
  refine G_callVI 600 (S_X10_at X l O28 a1 (p := (xs (i + 1).toNatClampNeg)) (hr := (xs (i + 2).toNatClampNeg)) (v := (xs (i + 3).toNatClampNeg))) dL_law_597 rfl kX10_at lk_L_68 rfl O28 (by decide) hRc rfl (Nat.le_of_ble_eq_true rfl) (fun v_2 h_2 q_2 => ?_)
  obtain ⟨ev2, z1_2, n2_0, e2⟩ := q_2
  replace O0 := (e2 _ (by decide)).trans O0
  replace O1 := (e2 _ (by decide)).trans O1
  replace O2 := (e2 _ (by decide)).trans O2
  replace O3 := (e2 _ (by decide)).trans O3
  replace O12 := (e2 _ (by decide)).trans O12
  replace O13 := (e2 _ (by decide)).trans O13
  replace O14 := (e2 _ (by decide)).trans O14
  replace O15 := (e2 _ (by decide)).trans O15
  replace O16 := (e2 _ (by decide)).trans O16
  replace O17 := (e2 _ (by decide)).trans O17
  replace O18 := (e2 _ (by decide)).trans O18
  replace O19 := (e2 _ (by decide)).trans O19
  replace O20 := (e2 _ (by decide)).trans O20
  replace O21 := (e2 _ (by decide)).trans O21
  replace O22 := (e2 _ (by decide)).trans O22
  replace O23 := (e2 _ (by decide)).trans O23
  replace O24 := (e2 _ (by decide)).trans O24
  replace O25 := (e2 _ (by decide)).trans O25
  replace O26 := (e2 _ (by decide)).trans O26
  replace O27 := (e2 _ (by decide)).trans O27
  replace O28 := n2_0
  replace hV : ∀ j, j < 8 → h_2 (j + 4) = some (wB (j + 4) (_ )) := fun j hj => (e2 _ (by omega)).trans (hV j hj)
  obtain rfl : v_1 = v_2 := ev1.symm.trans ev2
  refine G_icmp_eq 1755 603 dL_law_600 (by decide) rfl (fun _ => ?_) (fun z => absurd rfl z)
  exact kk _ ⟨_, _, _, _, _, _, _, _, _, _, _, _, _, _, _, _, _, _, _, _, _, _, _, _, _, _, _, _, _, _, ⟨O0, O1, O2, O3, hV, O12, O13, O14, O15, O16, O17, O18, O19, O20, O21, O22, O23, O24, O25, O26, O27, O28⟩, ok⟩
