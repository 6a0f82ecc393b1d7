set_option maxHeartbeats 4000000 in
set_option maxRecDepth 100000 in
theorem K_done {G : GX} {X : En} {l : Launch} {nc ns : Nat} (hRc : nc ≤ 600000 ∧ ns ≤ 7302250) {b L : Nat} {xs : Nat → Int32} (lg : LG G X b L xs) {i : Int32} (h1 : vp_in (i + 1) L) (h2 : vp_in (i + 2) L) (h3 : vp_in (i + 3) L) (h4 : vp_in (i + 4) L) {h : Hp} (hI : Inv h) (kk : ∀ h', Inv h' → Ag G X l mL_law nc ns 1755 (lwL i) [] h') : Ag G X l mL_law nc ns 605 (lwL i) [] h := by
  obtain ⟨x, g, r, xi, np, kp, V, t12, n12, k12, t15, n15, im, T, z, W, x13, y14, y16, t17, n17, y18, y20, y22, y23, x24, s25, t25, y26, x27, ⟨O0, O1, O2, O3, hV, O12, O13, O14, O15, O16, O17, O18, O19, O20, O21, O22, O23, O24, O25, O26, O27, O28⟩, ok⟩ := hI
  obtain ⟨a1, a2, a3, a4, a5, a6, a7, a8, a9, a10, a11⟩ := id ok
  refine G_aload_n 606 dL_law_605 rfl rfl rfl ?_
  refine G_aload_n 607 dL_law_606 rfl rfl rfl ?_
  refine G_iload_n 608 dL_law_607 rfl rfl rfl ?_
  refine G_iconst 609 1 dL_law_608 rfl (by decide) ?_
  refine G_iadd 610 dL_law_609 rfl ?_
  refine G_sld 611 lg.1 lg.2.1 lg.2.2.1 lg.2.2.2 dL_law_610 rfl h1 ?_
  refine G_aload_n 612 dL_law_611 rfl rfl rfl ?_
  refine G_iload_n 613 dL_law_612 rfl rfl rfl ?_
  refine G_iconst 614 2 dL_law_613 rfl (by decide) ?_
  refine G_iadd 615 dL_law_614 rfl ?_
  refine G_sld 616 lg.1 lg.2.1 lg.2.2.1 lg.2.2.2 dL_law_615 rfl h2 ?_
  refine G_callVI 619 (S_X9_done X l O0 O1 a1 O16 (p := (xs (i + 1).toNatClampNeg)) (v := (xs (i + 2).toNatClampNeg))) dL_law_616 rfl kX9_done lk_L_69 rfl O0 (by decide) hRc rfl (Nat.le_of_ble_eq_true rfl) (fun v_1 h_1 q_1 => ?_)
  obtain ⟨ev1, z16_1, n1_0, n1_1, e1⟩ := q_1
  replace O0 := n1_0
  replace O1 := (e1 _ (by decide) (by decide)).trans O1
  replace O2 := (e1 _ (by decide) (by decide)).trans O2
  replace O3 := (e1 _ (by decide) (by decide)).trans O3
  replace O12 := (e1 _ (by decide) (by decide)).trans O12
  replace O13 := (e1 _ (by decide) (by decide)).trans O13
  replace O14 := (e1 _ (by decide) (by decide)).trans O14
  replace O15 := (e1 _ (by decide) (by decide)).trans O15
  replace O16 := n1_1
  replace O17 := (e1 _ (by decide) (by decide)).trans O17
  replace O18 := (e1 _ (by decide) (by decide)).trans O18
  replace O19 := (e1 _ (by decide) (by decide)).trans O19
  replace O20 := (e1 _ (by decide) (by decide)).trans O20
  replace O21 := (e1 _ (by decide) (by decide)).trans O21
  replace O22 := (e1 _ (by decide) (by decide)).trans O22
  replace O23 := (e1 _ (by decide) (by decide)).trans O23
  replace O24 := (e1 _ (by decide) (by decide)).trans O24
  replace O25 := (e1 _ (by decide) (by decide)).trans O25
  replace O26 := (e1 _ (by decide) (by decide)).trans O26
  replace O27 := (e1 _ (by decide) (by decide)).trans O27
  replace O28 := (e1 _ (by decide) (by decide)).trans O28
  replace hV : ∀ j, j < 8 → h_1 (j + 4) = some (wB (j + 4) (_ )) := fun j hj => (e1 _ (by omega) (by omega)).trans (hV j hj)
  refine G_aload_n 620 dL_law_619 rfl rfl rfl ?_
  refine G_aload_n 621 dL_law_620 rfl rfl rfl ?_
  refine G_iload_n 622 dL_law_621 rfl rfl rfl ?_
  refine G_iconst 623 1 dL_law_622 rfl (by decide) ?_
  refine G_iadd 624 dL_law_623 rfl ?_
  refine G_sld 625 lg.1 lg.2.1 lg.2.2.1 lg.2.2.2 dL_law_624 rfl h1 ?_
  refine G_aload_n 626 dL_law_625 rfl rfl rfl ?_
  refine G_iload_n 627 dL_law_626 rfl rfl rfl ?_
  refine G_iconst 628 2 dL_law_627 rfl (by decide) ?_
  refine G_iadd 629 dL_law_628 rfl ?_
  refine G_sld 630 lg.1 lg.2.1 lg.2.2.1 lg.2.2.2 dL_law_629 rfl h2 ?_
  refine G_callVI 633 (S_X10_done X l O28 a1 (p := (xs (i + 1).toNatClampNeg)) (v := (xs (i + 2).toNatClampNeg))) dL_law_630 rfl kX10_done lk_L_72 rfl O28 (by decide) hRc rfl (Nat.le_of_ble_eq_true rfl) (fun v_2 h_2 q_2 => ?_)
  obtain ⟨ev2, z1_2, n2_0, e2⟩ := q_2
  replace O0 := (e2 _ (by decide)).trans O0
  replace O1 := (e2 _ (by decide)).trans O1
  replace O2 := (e2 _ (by decide)).trans O2
  replace O3 := (e2 _ (by decide)).trans O3
  replace O12 := (e2 _ (by decide)).trans O12
  replace O13 := (e2 _ (by decide)).trans O13
  replace O14 := (e2 _ (by decide)).trans O14
  replace O15 := (e2 _ (by decide)).trans O15
  replace O16 := (e2 _ (by decide)).trans O16
  replace O17 := (e2 _ (by decide)).trans O17
  replace O18 := (e2 _ (by decide)).trans O18
  replace O19 := (e2 _ (by decide)).trans O19
  replace O20 := (e2 _ (by decide)).trans O20
  replace O21 := (e2 _ (by decide)).trans O21
  replace O22 := (e2 _ (by decide)).trans O22
  replace O23 := (e2 _ (by decide)).trans O23
  replace O24 := (e2 _ (by decide)).trans O24
  replace O25 := (e2 _ (by decide)).trans O25
  replace O26 := (e2 _ (by decide)).trans O26
  replace O27 := (e2 _ (by decide)).trans O27
  replace O28 := n2_0
  replace hV : ∀ j, j < 8 → h_2 (j + 4) = some (wB (j + 4) (_ )) := fun j hj => (e2 _ (by omega)).trans (hV j hj)
  obtain rfl : v_1 = v_2 := ev1.symm.trans ev2
  refine G_icmp_eq 1755 636 dL_law_633 (by decide) rfl (fun _ => ?_) (fun z => absurd rfl z)
  exact kk _ ⟨_, _, _, _, _, _, _, _, _, _, _, _, _, _, _, _, _, _, _, _, _, _, _, _, _, _, _, _, _, _, ⟨O0, O1, O2, O3, hV, O12, O13, O14, O15, O16, O17, O18, O19, O20, O21, O22, O23, O24, O25, O26, O27, O28⟩, ok⟩
set_option maxHeartbeats 4000000 in
set_option maxRecDepth 100000 in
theorem K_when {G : GX} {X : En} {l : Launch} {nc ns : Nat} (hRc : nc ≤ 600000 ∧ ns ≤ 7302250) {b L : Nat} {xs : Nat → Int32} (lg : LG G X b L xs) {i : Int32} (h1 : vp_in (i + 1) L) (h2 : vp_in (i + 2) L) (h3 : vp_in (i + 3) L) (h4 : vp_in (i + 4) L) {h : Hp} (hI : Inv h) (kk : ∀ h', Inv h' → Ag G X l mL_law nc ns 1755 (lwL i) [] h') : Ag G X l mL_law nc ns 638 (lwL i) [] h := by
  obtain ⟨x, g, r, xi, np, kp, V, t12, n12, k12, t15, n15, im, T, z, W, x13, y14, y16, t17, n17, y18, y20, y22, y23, x24, s25, t25, y26, x27, ⟨O0, O1, O2, O3, hV, O12, O13, O14, O15, O16, O17, O18, O19, O20, O21, O22, O23, O24, O25, O26, O27, O28⟩, ok⟩ := hI
  obtain ⟨a1, a2, a3, a4, a5, a6, a7, a8, a9, a10, a11⟩ := id ok
  refine G_aload_n 639 dL_law_638 rfl rfl rfl ?_
  refine G_aload_n 640 dL_law_639 rfl rfl rfl ?_
  refine G_iload_n 641 dL_law_640 rfl rfl rfl ?_
  refine G_iconst 642 1 dL_law_641 rfl (by decide) ?_
  refine G_iadd 643 dL_law_642 rfl ?_
  refine G_sld 644 lg.1 lg.2.1 lg.2.2.1 lg.2.2.2 dL_law_643 rfl h1 ?_
  refine G_aload_n 645 dL_law_644 rfl rfl rfl ?_
  refine G_iload_n 646 dL_law_645 rfl rfl rfl ?_
  refine G_iconst 647 2 dL_law_646 rfl (by decide) ?_
  refine G_iadd 648 dL_law_647 rfl ?_
  refine G_sld 649 lg.1 lg.2.1 lg.2.2.1 lg.2.2.2 dL_law_648 rfl h2 ?_
  refine G_callVI 652 (S_X9_when X l O0 O1 a1 O16 (p := (xs (i + 1).toNatClampNeg)) (l0 := (xs (i + 2).toNatClampNeg))) dL_law_649 rfl kX9_when lk_L_73 rfl O0 (by decide) hRc rfl (Nat.le_of_ble_eq_true rfl) (fun v_1 h_1 q_1 => ?_)
  obtain ⟨ev1, z16_1, n1_0, n1_1, e1⟩ := q_1
  replace O0 := n1_0
  replace O1 := (e1 _ (by decide) (by decide)).trans O1
  replace O2 := (e1 _ (by decide) (by decide)).trans O2
  replace O3 := (e1 _ (by decide) (by decide)).trans O3
  replace O12 := (e1 _ (by decide) (by decide)).trans O12
  replace O13 := (e1 _ (by decide) (by decide)).trans O13
  replace O14 := (e1 _ (by decide) (by decide)).trans O14
  replace O15 := (e1 _ (by decide) (by decide)).trans O15
  replace O16 := n1_1
  replace O17 := (e1 _ (by decide) (by decide)).trans O17
  replace O18 := (e1 _ (by decide) (by decide)).trans O18
  replace O19 := (e1 _ (by decide) (by decide)).trans O19
  replace O20 := (e1 _ (by decide) (by decide)).trans O20
  replace O21 := (e1 _ (by decide) (by decide)).trans O21
  replace O22 := (e1 _ (by decide) (by decide)).trans O22
  replace O23 := (e1 _ (by decide) (by decide)).trans O23
  replace O24 := (e1 _ (by decide) (by decide)).trans O24
  replace O25 := (e1 _ (by decide) (by decide)).trans O25
  replace O26 := (e1 _ (by decide) (by decide)).trans O26
  replace O27 := (e1 _ (by decide) (by decide)).trans O27
  replace O28 := (e1 _ (by decide) (by decide)).trans O28
  replace hV : ∀ j, j < 8 → h_1 (j + 4) = some (wB (j + 4) (_ )) := fun j hj => (e1 _ (by omega) (by omega)).trans (hV j hj)
  refine G_aload_n 653 dL_law_652 rfl rfl rfl ?_
  refine G_aload_n 654 dL_law_653 rfl rfl rfl ?_
  refine G_iload_n 655 dL_law_654 rfl rfl rfl ?_
  refine G_iconst 656 1 dL_law_655 rfl (by decide) ?_
  refine G_iadd 657 dL_law_656 rfl ?_
  refine G_sld 658 lg.1 lg.2.1 lg.2.2.1 lg.2.2.2 dL_law_657 rfl h1 ?_
  refine G_aload_n 659 dL_law_658 rfl rfl rfl ?_
  refine G_iload_n 660 dL_law_659 rfl rfl rfl ?_
  refine G_iconst 661 2 dL_law_660 rfl (by decide) ?_
  refine G_iadd 662 dL_law_661 rfl ?_
  refine G_sld 663 lg.1 lg.2.1 lg.2.2.1 lg.2.2.2 dL_law_662 rfl h2 ?_
  refine G_callVI 666 (S_X10_when X l O28 a1 (p := (xs (i + 1).toNatClampNeg)) (l0 := (xs (i + 2).toNatClampNeg))) dL_law_663 rfl kX10_when lk_L_76 rfl O28 (by decide) hRc rfl (Nat.le_of_ble_eq_true rfl) (fun v_2 h_2 q_2 => ?_)
  obtain ⟨ev2, z1_2, n2_0, e2⟩ := q_2
  replace O0 := (e2 _ (by decide)).trans O0
  replace O1 := (e2 _ (by decide)).trans O1
  replace O2 := (e2 _ (by decide)).trans O2
  replace O3 := (e2 _ (by decide)).trans O3
  replace O12 := (e2 _ (by decide)).trans O12
  replace O13 := (e2 _ (by decide)).trans O13
  replace O14 := (e2 _ (by decide)).trans O14
  replace O15 := (e2 _ (by decide)).trans O15
  replace O16 := (e2 _ (by decide)).trans O16
  replace O17 := (e2 _ (by decide)).trans O17
  replace O18 := (e2 _ (by decide)).trans O18
  replace O19 := (e2 _ (by decide)).trans O19
  replace O20 := (e2 _ (by decide)).trans O20
  replace O21 := (e2 _ (by decide)).trans O21
  replace O22 := (e2 _ (by decide)).trans O22
  replace O23 := (e2 _ (by decide)).trans O23
  replace O24 := (e2 _ (by decide)).trans O24
  replace O25 := (e2 _ (by decide)).trans O25
  replace O26 := (e2 _ (by decide)).trans O26
  replace O27 := (e2 _ (by decide)).trans O27
  replace O28 := n2_0
  replace hV : ∀ j, j < 8 → h_2 (j + 4) = some (wB (j + 4) (_ )) := fun j hj => (e2 _ (by omega)).trans (hV j hj)
  obtain rfl : v_1 = v_2 := ev1.symm.trans ev2
  refine G_icmp_eq 1755 669 dL_law_666 (by decide) rfl (fun _ => ?_) (fun z => absurd rfl z)
  exact kk _ ⟨_, _, _, _, _, _, _, _, _, _, _, _, _, _, _, _, _, _, _, _, _, _, _, _, _, _, _, _, _, _, ⟨O0, O1, O2, O3, hV, O12, O13, O14, O15, O16, O17, O18, O19, O20, O21, O22, O23, O24, O25, O26, O27, O28⟩, ok⟩
set_option maxHeartbeats 4000000 in
set_option maxRecDepth 100000 in
theorem K_instead {G : GX} {X : En} {l : Launch} {nc ns : Nat} (hRc : nc ≤ 600000 ∧ ns ≤ 7302250) {b L : Nat} {xs : Nat → Int32} (lg : LG G X b L xs) {i : Int32} (h1 : vp_in (i + 1) L) (h2 : vp_in (i + 2) L) (h3 : vp_in (i + 3) L) (h4 : vp_in (i + 4) L) {h : Hp} (hI : Inv h) (kk : ∀ h', Inv h' → Ag G X l mL_law nc ns 1755 (lwL i) [] h') : Ag G X l mL_law nc ns 671 (lwL i) [] h := by
  obtain ⟨x, g, r, xi, np, kp, V, t12, n12, k12, t15, n15, im, T, z, W, x13, y14, y16, t17, n17, y18, y20, y22, y23, x24, s25, t25, y26, x27, ⟨O0, O1, O2, O3, hV, O12, O13, O14, O15, O16, O17, O18, O19, O20, O21, O22, O23, O24, O25, O26, O27, O28⟩, ok⟩ := hI
  obtain ⟨a1, a2, a3, a4, a5, a6, a7, a8, a9, a10, a11⟩ := id ok
  refine G_aload_n 672 dL_law_671 rfl rfl rfl ?_
  refine G_aload_n 673 dL_law_672 rfl rfl rfl ?_
  refine G_iload_n 674 dL_law_673 rfl rfl rfl ?_
  refine G_iconst 675 1 dL_law_674 rfl (by decide) ?_
  refine G_iadd 676 dL_law_675 rfl ?_
  refine G_sld 677 lg.1 lg.2.1 lg.2.2.1 lg.2.2.2 dL_law_676 rfl h1 ?_
  refine G_aload_n 678 dL_law_677 rfl rfl rfl ?_
  refine G_iload_n 679 dL_law_678 rfl rfl rfl ?_
  refine G_iconst 680 2 dL_law_679 rfl (by decide) ?_
  refine G_iadd 681 dL_law_680 rfl ?_
  refine G_sld 682 lg.1 lg.2.1 lg.2.2.1 lg.2.2.2 dL_law_681 rfl h2 ?_
  refine G_aload_n 683 dL_law_682 rfl rfl rfl ?_
  refine G_iload_n 684 dL_law_683 rfl rfl rfl ?_
  refine G_iconst 685 3 dL_law_684 rfl (by decide) ?_
  refine G_iadd 686 dL_law_685 rfl ?_
  refine G_sld 687 lg.1 lg.2.1 lg.2.2.1 lg.2.2.2 dL_law_686 rfl h3 ?_
  refine G_callVI 690 (S_X9_instead X l O0 O1 a1 O16 (p := (xs (i + 1).toNatClampNeg)) (s0 := (xs (i + 2).toNatClampNeg)) (v := (xs (i + 3).toNatClampNeg))) dL_law_687 rfl kX9_instead lk_L_77 rfl O0 (by decide) hRc rfl (Nat.le_of_ble_eq_true rfl) (fun v_1 h_1 q_1 => ?_)
  obtain ⟨ev1, z16_1, n1_0, n1_1, e1⟩ := q_1
  replace O0 := n1_0
  replace O1 := (e1 _ (by decide) (by decide)).trans O1
  replace O2 := (e1 _ (by decide) (by decide)).trans O2
  replace O3 := (e1 _ (by decide) (by decide)).trans O3
  replace O12 := (e1 _ (by decide) (by decide)).trans O12
  replace O13 := (e1 _ (by decide) (by decide)).trans O13
  replace O14 := (e1 _ (by decide) (by decide)).trans O14
  replace O15 := (e1 _ (by decide) (by decide)).trans O15
  replace O16 := n1_1
  replace O17 := (e1 _ (by decide) (by decide)).trans O17
  replace O18 := (e1 _ (by decide) (by decide)).trans O18
  replace O19 := (e1 _ (by decide) (by decide)).trans O19
  replace O20 := (e1 _ (by decide) (by decide)).trans O20
  replace O21 := (e1 _ (by decide) (by decide)).trans O21
  replace O22 := (e1 _ (by decide) (by decide)).trans O22
  replace O23 := (e1 _ (by decide) (by decide)).trans O23
  replace O24 := (e1 _ (by decide) (by decide)).trans O24
  replace O25 := (e1 _ (by decide) (by decide)).trans O25
  replace O26 := (e1 _ (by decide) (by decide)).trans O26
  replace O27 := (e1 _ (by decide) (by decide)).trans O27
  replace O28 := (e1 _ (by decide) (by decide)).trans O28
  replace hV : ∀ j, j < 8 → h_1 (j + 4) = some (wB (j + 4) (_ )) := fun j hj => (e1 _ (by omega) (by omega)).trans (hV j hj)
  refine G_aload_n 691 dL_law_690 rfl rfl rfl ?_
  refine G_aload_n 692 dL_law_691 rfl rfl rfl ?_
  refine G_iload_n 693 dL_law_692 rfl rfl rfl ?_
  refine G_iconst 694 1 dL_law_693 rfl (by decide) ?_
  refine G_iadd 695 dL_law_694 rfl ?_
  refine G_sld 696 lg.1 lg.2.1 lg.2.2.1 lg.2.2.2 dL_law_695 rfl h1 ?_
  refine G_aload_n 697 dL_law_696 rfl rfl rfl ?_
  refine G_iload_n 698 dL_law_697 rfl rfl rfl ?_
  refine G_iconst 699 2 dL_law_698 rfl (by decide) ?_
  refine G_iadd 700 dL_law_699 rfl ?_
  refine G_sld 701 lg.1 lg.2.1 lg.2.2.1 lg.2.2.2 dL_law_700 rfl h2 ?_
  refine G_aload_n 702 dL_law_701 rfl rfl rfl ?_
  refine G_iload_n 703 dL_law_702 rfl rfl rfl ?_
  refine G_iconst 704 3 dL_law_703 rfl (by decide) ?_
  refine G_iadd 705 dL_law_704 rfl ?_
  refine G_sld 706 lg.1 lg.2.1 lg.2.2.1 lg.2.2.2 dL_law_705 rfl h3 ?_
  refine G_callVI 709 (S_X10_instead X l O28 a1 (p := (xs (i + 1).toNatClampNeg)) (s0 := (xs (i + 2).toNatClampNeg)) (v := (xs (i + 3).toNatClampNeg))) dL_law_706 rfl kX10_instead lk_L_80 rfl O28 (by decide) hRc rfl (Nat.le_of_ble_eq_true rfl) (fun v_2 h_2 q_2 => ?_)
  obtain ⟨ev2, z1_2, n2_0, e2⟩ := q_2
  replace O0 := (e2 _ (by decide)).trans O0
  replace O1 := (e2 _ (by decide)).trans O1
  replace O2 := (e2 _ (by decide)).trans O2
  replace O3 := (e2 _ (by decide)).trans O3
  replace O12 := (e2 _ (by decide)).trans O12
  replace O13 := (e2 _ (by decide)).trans O13
  replace O14 := (e2 _ (by decide)).trans O14
  replace O15 := (e2 _ (by decide)).trans O15
  replace O16 := (e2 _ (by decide)).trans O16
  replace O17 := (e2 _ (by decide)).trans O17
  replace O18 := (e2 _ (by decide)).trans O18
  replace O19 := (e2 _ (by decide)).trans O19
  replace O20 := (e2 _ (by decide)).trans O20
  replace O21 := (e2 _ (by decide)).trans O21
  replace O22 := (e2 _ (by decide)).trans O22
  replace O23 := (e2 _ (by decide)).trans O23
  replace O24 := (e2 _ (by decide)).trans O24
  replace O25 := (e2 _ (by decide)).trans O25
  replace O26 := (e2 _ (by decide)).trans O26
  replace O27 := (e2 _ (by decide)).trans O27
  replace O28 := n2_0
  replace hV : ∀ j, j < 8 → h_2 (j + 4) = some (wB (j + 4) (_ )) := fun j hj => (e2 _ (by omega)).trans (hV j hj)
  obtain rfl : v_1 = v_2 := ev1.symm.trans ev2
  refine G_icmp_eq 1755 712 dL_law_709 (by decide) rfl (fun _ => ?_) (fun z => absurd rfl z)
  exact kk _ ⟨_, _, _, _, _, _, _, _, _, _, _, _, _, _, _, _, _, _, _, _, _, _, _, _, _, _, _, _, _, _, ⟨O0, O1, O2, O3, hV, O12, O13, O14, O15, O16, O17, O18, O19, O20, O21, O22, O23, O24, O25, O26, O27, O28⟩, ok⟩
set_option maxHeartbeats 4000000 in
set_option maxRecDepth 100000 in
theorem K_stopped {G : GX} {X : En} {l : Launch} {nc ns : Nat} (hRc : nc ≤ 600000 ∧ ns ≤ 7302250) {b L : Nat} {xs : Nat → Int32} (lg : LG G X b L xs) {i : Int32} (h1 : vp_in (i + 1) L) (h2 : vp_in (i + 2) L) (h3 : vp_in (i + 3) L) (h4 : vp_in (i + 4) L) {h : Hp} (hI : Inv h) (kk : ∀ h', Inv h' → Ag G X l mL_law nc ns 1755 (lwL i) [] h') : Ag G X l mL_law nc ns 714 (lwL i) [] h := by
  obtain ⟨x, g, r, xi, np, kp, V, t12, n12, k12, t15, n15, im, T, z, W, x13, y14, y16, t17, n17, y18, y20, y22, y23, x24, s25, t25, y26, x27, ⟨O0, O1, O2, O3, hV, O12, O13, O14, O15, O16, O17, O18, O19, O20, O21, O22, O23, O24, O25, O26, O27, O28⟩, ok⟩ := hI
  obtain ⟨a1, a2, a3, a4, a5, a6, a7, a8, a9, a10, a11⟩ := id ok
  refine G_aload_n 715 dL_law_714 rfl rfl rfl ?_
  refine G_aload_n 716 dL_law_715 rfl rfl rfl ?_
  refine G_iload_n 717 dL_law_716 rfl rfl rfl ?_
  refine G_iconst 718 1 dL_law_717 rfl (by decide) ?_
  refine G_iadd 719 dL_law_718 rfl ?_
  refine G_sld 720 lg.1 lg.2.1 lg.2.2.1 lg.2.2.2 dL_law_719 rfl h1 ?_
  refine G_aload_n 721 dL_law_720 rfl rfl rfl ?_
  refine G_iload_n 722 dL_law_721 rfl rfl rfl ?_
  refine G_iconst 723 2 dL_law_722 rfl (by decide) ?_
  refine G_iadd 724 dL_law_723 rfl ?_
  refine G_sld 725 lg.1 lg.2.1 lg.2.2.1 lg.2.2.2 dL_law_724 rfl h2 ?_
  refine G_callVI 728 (S_X9_stopped X l O0 O1 a1 O19 O20 (p := (xs (i + 1).toNatClampNeg)) (l0 := (xs (i + 2).toNatClampNeg))) dL_law_725 rfl kX9_stopped lk_L_81 rfl O0 (by decide) hRc rfl (Nat.le_of_ble_eq_true rfl) (fun v_1 h_1 q_1 => ?_)
  obtain ⟨ev1, z20_1, n1_0, n1_1, e1⟩ := q_1
  replace O0 := n1_0
  replace O1 := (e1 _ (by decide) (by decide)).trans O1
  replace O2 := (e1 _ (by decide) (by decide)).trans O2
  replace O3 := (e1 _ (by decide) (by decide)).trans O3
  replace O12 := (e1 _ (by decide) (by decide)).trans O12
  replace O13 := (e1 _ (by decide) (by decide)).trans O13
  replace O14 := (e1 _ (by decide) (by decide)).trans O14
  replace O15 := (e1 _ (by decide) (by decide)).trans O15
  replace O16 := (e1 _ (by decide) (by decide)).trans O16
  replace O17 := (e1 _ (by decide) (by decide)).trans O17
  replace O18 := (e1 _ (by decide) (by decide)).trans O18
  replace O19 := (e1 _ (by decide) (by decide)).trans O19
  replace O20 := n1_1
  replace O21 := (e1 _ (by decide) (by decide)).trans O21
  replace O22 := (e1 _ (by decide) (by decide)).trans O22
  replace O23 := (e1 _ (by decide) (by decide)).trans O23
  replace O24 := (e1 _ (by decide) (by decide)).trans O24
  replace O25 := (e1 _ (by decide) (by decide)).trans O25
  replace O26 := (e1 _ (by decide) (by decide)).trans O26
  replace O27 := (e1 _ (by decide) (by decide)).trans O27
  replace O28 := (e1 _ (by decide) (by decide)).trans O28
  replace hV : ∀ j, j < 8 → h_1 (j + 4) = some (wB (j + 4) (_ )) := fun j hj => (e1 _ (by omega) (by omega)).trans (hV j hj)
  refine G_aload_n 729 dL_law_728 rfl rfl rfl ?_
  refine G_aload_n 730 dL_law_729 rfl rfl rfl ?_
  refine G_iload_n 731 dL_law_730 rfl rfl rfl ?_
  refine G_iconst 732 1 dL_law_731 rfl (by decide) ?_
  refine G_iadd 733 dL_law_732 rfl ?_
  refine G_sld 734 lg.1 lg.2.1 lg.2.2.1 lg.2.2.2 dL_law_733 rfl h1 ?_
  refine G_aload_n 735 dL_law_734 rfl rfl rfl ?_
  refine G_iload_n 736 dL_law_735 rfl rfl rfl ?_
  refine G_iconst 737 2 dL_law_736 rfl (by decide) ?_
  refine G_iadd 738 dL_law_737 rfl ?_
  refine G_sld 739 lg.1 lg.2.1 lg.2.2.1 lg.2.2.2 dL_law_738 rfl h2 ?_
  refine G_callVI 742 (S_X10_stopped X l O28 a1 (p := (xs (i + 1).toNatClampNeg)) (l0 := (xs (i + 2).toNatClampNeg))) dL_law_739 rfl kX10_stopped lk_L_84 rfl O28 (by decide) hRc rfl (Nat.le_of_ble_eq_true rfl) (fun v_2 h_2 q_2 => ?_)
  obtain ⟨ev2, z1_2, n2_0, e2⟩ := q_2
  replace O0 := (e2 _ (by decide)).trans O0
  replace O1 := (e2 _ (by decide)).trans O1
  replace O2 := (e2 _ (by decide)).trans O2
  replace O3 := (e2 _ (by decide)).trans O3
  replace O12 := (e2 _ (by decide)).trans O12
  replace O13 := (e2 _ (by decide)).trans O13
  replace O14 := (e2 _ (by decide)).trans O14
  replace O15 := (e2 _ (by decide)).trans O15
  replace O16 := (e2 _ (by decide)).trans O16
  replace O17 := (e2 _ (by decide)).trans O17
  replace O18 := (e2 _ (by decide)).trans O18
  replace O19 := (e2 _ (by decide)).trans O19
  replace O20 := (e2 _ (by decide)).trans O20
  replace O21 := (e2 _ (by decide)).trans O21
  replace O22 := (e2 _ (by decide)).trans O22
  replace O23 := (e2 _ (by decide)).trans O23
  replace O24 := (e2 _ (by decide)).trans O24
  replace O25 := (e2 _ (by decide)).trans O25
  replace O26 := (e2 _ (by decide)).trans O26
  replace O27 := (e2 _ (by decide)).trans O27
  replace O28 := n2_0
  replace hV : ∀ j, j < 8 → h_2 (j + 4) = some (wB (j + 4) (_ )) := fun j hj => (e2 _ (by omega)).trans (hV j hj)
  obtain rfl : v_1 = v_2 := ev1.symm.trans ev2
  refine G_icmp_eq 1755 745 dL_law_742 (by decide) rfl (fun _ => ?_) (fun z => absurd rfl z)
  exact kk _ ⟨_, _, _, _, _, _, _, _, _, _, _, _, _, _, _, _, _, _, _, _, _, _, _, _, _, _, _, _, _, _, ⟨O0, O1, O2, O3, hV, O12, O13, O14, O15, O16, O17, O18, O19, O20, O21, O22, O23, O24, O25, O26, O27, O28⟩, ok⟩
set_option maxHeartbeats 4000000 in
set_option maxRecDepth 100000 in
theorem K_allStopped {G : GX} {X : En} {l : Launch} {nc ns : Nat} (hRc : nc ≤ 600000 ∧ ns ≤ 7302250) {b L : Nat} {xs : Nat → Int32} (lg : LG G X b L xs) {i : Int32} (h1 : vp_in (i + 1) L) (h2 : vp_in (i + 2) L) (h3 : vp_in (i + 3) L) (h4 : vp_in (i + 4) L) {h : Hp} (hI : Inv h) (kk : ∀ h', Inv h' → Ag G X l mL_law nc ns 1755 (lwL i) [] h') : Ag G X l mL_law nc ns 747 (lwL i) [] h := by
  obtain ⟨x, g, r, xi, np, kp, V, t12, n12, k12, t15, n15, im, T, z, W, x13, y14, y16, t17, n17, y18, y20, y22, y23, x24, s25, t25, y26, x27, ⟨O0, O1, O2, O3, hV, O12, O13, O14, O15, O16, O17, O18, O19, O20, O21, O22, O23, O24, O25, O26, O27, O28⟩, ok⟩ := hI
  obtain ⟨a1, a2, a3, a4, a5, a6, a7, a8, a9, a10, a11⟩ := id ok
  refine G_aload_n 748 dL_law_747 rfl rfl rfl ?_
  refine G_aload_n 749 dL_law_748 rfl rfl rfl ?_
  refine G_iload_n 750 dL_law_749 rfl rfl rfl ?_
  refine G_iconst 751 1 dL_law_750 rfl (by decide) ?_
  refine G_iadd 752 dL_law_751 rfl ?_
  refine G_sld 753 lg.1 lg.2.1 lg.2.2.1 lg.2.2.2 dL_law_752 rfl h1 ?_
  refine G_aload_n 754 dL_law_753 rfl rfl rfl ?_
  refine G_iload_n 755 dL_law_754 rfl rfl rfl ?_
  refine G_iconst 756 2 dL_law_755 rfl (by decide) ?_
  refine G_iadd 757 dL_law_756 rfl ?_
  refine G_sld 758 lg.1 lg.2.1 lg.2.2.1 lg.2.2.2 dL_law_757 rfl h2 ?_
  refine G_callVI 761 (S_X9_allStopped X l O0 O1 a1 O19 O20 (p := (xs (i + 1).toNatClampNeg)) (s0 := (xs (i + 2).toNatClampNeg))) dL_law_758 rfl kX9_allStopped lk_L_85 rfl O0 (by decide) hRc rfl (Nat.le_of_ble_eq_true rfl) (fun v_1 h_1 q_1 => ?_)
  obtain ⟨ev1, z20_1, n1_0, n1_1, e1⟩ := q_1
  replace O0 := n1_0
  replace O1 := (e1 _ (by decide) (by decide)).trans O1
  replace O2 := (e1 _ (by decide) (by decide)).trans O2
  replace O3 := (e1 _ (by decide) (by decide)).trans O3
  replace O12 := (e1 _ (by decide) (by decide)).trans O12
  replace O13 := (e1 _ (by decide) (by decide)).trans O13
  replace O14 := (e1 _ (by decide) (by decide)).trans O14
  replace O15 := (e1 _ (by decide) (by decide)).trans O15
  replace O16 := (e1 _ (by decide) (by decide)).trans O16
  replace O17 := (e1 _ (by decide) (by decide)).trans O17
  replace O18 := (e1 _ (by decide) (by decide)).trans O18
  replace O19 := (e1 _ (by decide) (by decide)).trans O19
  replace O20 := n1_1
  replace O21 := (e1 _ (by decide) (by decide)).trans O21
  replace O22 := (e1 _ (by decide) (by decide)).trans O22
  replace O23 := (e1 _ (by decide) (by decide)).trans O23
  replace O24 := (e1 _ (by decide) (by decide)).trans O24
  replace O25 := (e1 _ (by decide) (by decide)).trans O25
  replace O26 := (e1 _ (by decide) (by decide)).trans O26
  replace O27 := (e1 _ (by decide) (by decide)).trans O27
  replace O28 := (e1 _ (by decide) (by decide)).trans O28
  replace hV : ∀ j, j < 8 → h_1 (j + 4) = some (wB (j + 4) (_ )) := fun j hj => (e1 _ (by omega) (by omega)).trans (hV j hj)
  refine G_aload_n 762 dL_law_761 rfl rfl rfl ?_
  refine G_aload_n 763 dL_law_762 rfl rfl rfl ?_
  refine G_iload_n 764 dL_law_763 rfl rfl rfl ?_
  refine G_iconst 765 1 dL_law_764 rfl (by decide) ?_
  refine G_iadd 766 dL_law_765 rfl ?_
  refine G_sld 767 lg.1 lg.2.1 lg.2.2.1 lg.2.2.2 dL_law_766 rfl h1 ?_
  refine G_aload_n 768 dL_law_767 rfl rfl rfl ?_
  refine G_iload_n 769 dL_law_768 rfl rfl rfl ?_
  refine G_iconst 770 2 dL_law_769 rfl (by decide) ?_
  refine G_iadd 771 dL_law_770 rfl ?_
  refine G_sld 772 lg.1 lg.2.1 lg.2.2.1 lg.2.2.2 dL_law_771 rfl h2 ?_
  refine G_callVI 775 (S_X10_allStopped X l O28 a1 (p := (xs (i + 1).toNatClampNeg)) (s0 := (xs (i + 2).toNatClampNeg))) dL_law_772 rfl kX10_allStopped lk_L_88 rfl O28 (by decide) hRc rfl (Nat.le_of_ble_eq_true rfl) (fun v_2 h_2 q_2 => ?_)
  obtain ⟨ev2, z1_2, n2_0, e2⟩ := q_2
  replace O0 := (e2 _ (by decide)).trans O0
  replace O1 := (e2 _ (by decide)).trans O1
  replace O2 := (e2 _ (by decide)).trans O2
  replace O3 := (e2 _ (by decide)).trans O3
  replace O12 := (e2 _ (by decide)).trans O12
  replace O13 := (e2 _ (by decide)).trans O13
  replace O14 := (e2 _ (by decide)).trans O14
  replace O15 := (e2 _ (by decide)).trans O15
  replace O16 := (e2 _ (by decide)).trans O16
  replace O17 := (e2 _ (by decide)).trans O17
  replace O18 := (e2 _ (by decide)).trans O18
  replace O19 := (e2 _ (by decide)).trans O19
  replace O20 := (e2 _ (by decide)).trans O20
  replace O21 := (e2 _ (by decide)).trans O21
  replace O22 := (e2 _ (by decide)).trans O22
  replace O23 := (e2 _ (by decide)).trans O23
  replace O24 := (e2 _ (by decide)).trans O24
  replace O25 := (e2 _ (by decide)).trans O25
  replace O26 := (e2 _ (by decide)).trans O26
  replace O27 := (e2 _ (by decide)).trans O27
  replace O28 := n2_0
  replace hV : ∀ j, j < 8 → h_2 (j + 4) = some (wB (j + 4) (_ )) := fun j hj => (e2 _ (by omega)).trans (hV j hj)
  obtain rfl : v_1 = v_2 := ev1.symm.trans ev2
  refine G_icmp_eq 1755 778 dL_law_775 (by decide) rfl (fun _ => ?_) (fun z => absurd rfl z)
  exact kk _ ⟨_, _, _, _, _, _, _, _, _, _, _, _, _, _, _, _, _, _, _, _, _, _, _, _, _, _, _, _, _, _, ⟨O0, O1, O2, O3, hV, O12, O13, O14, O15, O16, O17, O18, O19, O20, O21, O22, O23, O24, O25, O26, O27, O28⟩, ok⟩
set_option maxHeartbeats 4000000 in
set_option maxRecDepth 100000 in
theorem K_agrees {G : GX} {X : En} {l : Launch} {nc ns : Nat} (hRc : nc ≤ 600000 ∧ ns ≤ 7302250) {b L : Nat} {xs : Nat → Int32} (lg : LG G X b L xs) {i : Int32} (h1 : vp_in (i + 1) L) (h2 : vp_in (i + 2) L) (h3 : vp_in (i + 3) L) (h4 : vp_in (i + 4) L) {h : Hp} (hI : Inv h) (kk : ∀ h', Inv h' → Ag G X l mL_law nc ns 1755 (lwL i) [] h') : Ag G X l mL_law nc ns 780 (lwL i) [] h := by
  obtain ⟨x, g, r, xi, np, kp, V, t12, n12, k12, t15, n15, im, T, z, W, x13, y14, y16, t17, n17, y18, y20, y22, y23, x24, s25, t25, y26, x27, ⟨O0, O1, O2, O3, hV, O12, O13, O14, O15, O16, O17, O18, O19, O20, O21, O22, O23, O24, O25, O26, O27, O28⟩, ok⟩ := hI
  obtain ⟨a1, a2, a3, a4, a5, a6, a7, a8, a9, a10, a11⟩ := id ok
  refine G_aload_n 781 dL_law_780 rfl rfl rfl ?_
  refine G_aload_n 782 dL_law_781 rfl rfl rfl ?_
  refine G_iload_n 783 dL_law_782 rfl rfl rfl ?_
  refine G_iconst 784 1 dL_law_783 rfl (by decide) ?_
  refine G_iadd 785 dL_law_784 rfl ?_
  refine G_sld 786 lg.1 lg.2.1 lg.2.2.1 lg.2.2.2 dL_law_785 rfl h1 ?_
  refine G_aload_n 787 dL_law_786 rfl rfl rfl ?_
  refine G_iload_n 788 dL_law_787 rfl rfl rfl ?_
  refine G_iconst 789 2 dL_law_788 rfl (by decide) ?_
  refine G_iadd 790 dL_law_789 rfl ?_
  refine G_sld 791 lg.1 lg.2.1 lg.2.2.1 lg.2.2.2 dL_law_790 rfl h2 ?_
  refine G_callVI 794 (S_X9_agrees X l O0 O1 a1 O19 O20 (p := (xs (i + 1).toNatClampNeg)) (v := (xs (i + 2).toNatClampNeg))) dL_law_791 rfl kX9_agrees lk_L_89 rfl O0 (by decide) hRc rfl (Nat.le_of_ble_eq_true rfl) (fun v_1 h_1 q_1 => ?_)
  obtain ⟨ev1, z20_1, n1_0, n1_1, e1⟩ := q_1
  replace O0 := n1_0
  replace O1 := (e1 _ (by decide) (by decide)).trans O1
  replace O2 := (e1 _ (by decide) (by decide)).trans O2
  replace O3 := (e1 _ (by decide) (by decide)).trans O3
  replace O12 := (e1 _ (by decide) (by decide)).trans O12
  replace O13 := (e1 _ (by decide) (by decide)).trans O13
  replace O14 := (e1 _ (by decide) (by decide)).trans O14
  replace O15 := (e1 _ (by decide) (by decide)).trans O15
  replace O16 := (e1 _ (by decide) (by decide)).trans O16
  replace O17 := (e1 _ (by decide) (by decide)).trans O17
  replace O18 := (e1 _ (by decide) (by decide)).trans O18
  replace O19 := (e1 _ (by decide) (by decide)).trans O19
  replace O20 := n1_1
  replace O21 := (e1 _ (by decide) (by decide)).trans O21
  replace O22 := (e1 _ (by decide) (by decide)).trans O22
  replace O23 := (e1 _ (by decide) (by decide)).trans O23
  replace O24 := (e1 _ (by decide) (by decide)).trans O24
  replace O25 := (e1 _ (by decide) (by decide)).trans O25
  replace O26 := (e1 _ (by decide) (by decide)).trans O26
  replace O27 := (e1 _ (by decide) (by decide)).trans O27
  replace O28 := (e1 _ (by decide) (by decide)).trans O28
  replace hV : ∀ j, j < 8 → h_1 (j + 4) = some (wB (j + 4) (_ )) := fun j hj => (e1 _ (by omega) (by omega)).trans (hV j hj)
  refine G_aload_n 795 dL_law_794 rfl rfl rfl ?_
  refine G_aload_n 796 dL_law_795 rfl rfl rfl ?_
  refine G_iload_n 797 dL_law_796 rfl rfl rfl ?_
  refine G_iconst 798 1 dL_law_797 rfl (by decide) ?_
  refine G_iadd 799 dL_law_798 rfl ?_
  refine G_sld 800 lg.1 lg.2.1 lg.2.2.1 lg.2.2.2 dL_law_799 rfl h1 ?_
  refine G_aload_n 801 dL_law_800 rfl rfl rfl ?_
  refine G_iload_n 802 dL_law_801 rfl rfl rfl ?_
  refine G_iconst 803 2 dL_law_802 rfl (by decide) ?_
  refine G_iadd 804 dL_law_803 rfl ?_
  refine G_sld 805 lg.1 lg.2.1 lg.2.2.1 lg.2.2.2 dL_law_804 rfl h2 ?_
  refine G_callVI 808 (S_X10_agrees X l O28 a1 (p := (xs (i + 1).toNatClampNeg)) (v := (xs (i + 2).toNatClampNeg))) dL_law_805 rfl kX10_agrees lk_L_92 rfl O28 (by decide) hRc rfl (Nat.le_of_ble_eq_true rfl) (fun v_2 h_2 q_2 => ?_)
  obtain ⟨ev2, z1_2, n2_0, e2⟩ := q_2
  replace O0 := (e2 _ (by decide)).trans O0
  replace O1 := (e2 _ (by decide)).trans O1
  replace O2 := (e2 _ (by decide)).trans O2
  replace O3 := (e2 _ (by decide)).trans O3
  replace O12 := (e2 _ (by decide)).trans O12
  replace O13 := (e2 _ (by decide)).trans O13
  replace O14 := (e2 _ (by decide)).trans O14
  replace O15 := (e2 _ (by decide)).trans O15
  replace O16 := (e2 _ (by decide)).trans O16
  replace O17 := (e2 _ (by decide)).trans O17
  replace O18 := (e2 _ (by decide)).trans O18
  replace O19 := (e2 _ (by decide)).trans O19
  replace O20 := (e2 _ (by decide)).trans O20
  replace O21 := (e2 _ (by decide)).trans O21
  replace O22 := (e2 _ (by decide)).trans O22
  replace O23 := (e2 _ (by decide)).trans O23
  replace O24 := (e2 _ (by decide)).trans O24
  replace O25 := (e2 _ (by decide)).trans O25
  replace O26 := (e2 _ (by decide)).trans O26
  replace O27 := (e2 _ (by decide)).trans O27
  replace O28 := n2_0
  replace hV : ∀ j, j < 8 → h_2 (j + 4) = some (wB (j + 4) (_ )) := fun j hj => (e2 _ (by omega)).trans (hV j hj)
  obtain rfl : v_1 = v_2 := ev1.symm.trans ev2
  refine G_icmp_eq 1755 811 dL_law_808 (by decide) rfl (fun _ => ?_) (fun z => absurd rfl z)
  exact kk _ ⟨_, _, _, _, _, _, _, _, _, _, _, _, _, _, _, _, _, _, _, _, _, _, _, _, _, _, _, _, _, _, ⟨O0, O1, O2, O3, hV, O12, O13, O14, O15, O16, O17, O18, O19, O20, O21, O22, O23, O24, O25, O26, O27, O28⟩, ok⟩
set_option maxHeartbeats 4000000 in
set_option maxRecDepth 100000 in
theorem K_bring {G : GX} {X : En} {l : Launch} {nc ns : Nat} (hRc : nc ≤ 600000 ∧ ns ≤ 7302250) {b L : Nat} {xs : Nat → Int32} (lg : LG G X b L xs) {i : Int32} (h1 : vp_in (i + 1) L) (h2 : vp_in (i + 2) L) (h3 : vp_in (i + 3) L) (h4 : vp_in (i + 4) L) {h : Hp} (hI : Inv h) (kk : ∀ h', Inv h' → Ag G X l mL_law nc ns 1755 (lwL i) [] h') : Ag G X l mL_law nc ns 813 (lwL i) [] h := by
  obtain ⟨x, g, r, xi, np, kp, V, t12, n12, k12, t15, n15, im, T, z, W, x13, y14, y16, t17, n17, y18, y20, y22, y23, x24, s25, t25, y26, x27, ⟨O0, O1, O2, O3, hV, O12, O13, O14, O15, O16, O17, O18, O19, O20, O21, O22, O23, O24, O25, O26, O27, O28⟩, ok⟩ := hI
  obtain ⟨a1, a2, a3, a4, a5, a6, a7, a8, a9, a10, a11⟩ := id ok
  refine G_aload_n 814 dL_law_813 rfl rfl rfl ?_
  refine G_aload_n 815 dL_law_814 rfl rfl rfl ?_
  refine G_iload_n 816 dL_law_815 rfl rfl rfl ?_
  refine G_iconst 817 1 dL_law_816 rfl (by decide) ?_
  refine G_iadd 818 dL_law_817 rfl ?_
  refine G_sld 819 lg.1 lg.2.1 lg.2.2.1 lg.2.2.2 dL_law_818 rfl h1 ?_
  refine G_aload_n 820 dL_law_819 rfl rfl rfl ?_
  refine G_iload_n 821 dL_law_820 rfl rfl rfl ?_
  refine G_iconst 822 2 dL_law_821 rfl (by decide) ?_
  refine G_iadd 823 dL_law_822 rfl ?_
  refine G_sld 824 lg.1 lg.2.1 lg.2.2.1 lg.2.2.2 dL_law_823 rfl h2 ?_
  refine G_callVI 827 (S_X9_bring X l O0 O1 a1 O19 O20 (p := (xs (i + 1).toNatClampNeg)) (l0 := (xs (i + 2).toNatClampNeg))) dL_law_824 rfl kX9_bring lk_L_93 rfl O0 (by decide) hRc rfl (Nat.le_of_ble_eq_true rfl) (fun v_1 h_1 q_1 => ?_)
  obtain ⟨ev1, z20_1, n1_0, n1_1, e1⟩ := q_1
  replace O0 := n1_0
  replace O1 := (e1 _ (by decide) (by decide)).trans O1
  replace O2 := (e1 _ (by decide) (by decide)).trans O2
  replace O3 := (e1 _ (by decide) (by decide)).trans O3
  replace O12 := (e1 _ (by decide) (by decide)).trans O12
  replace O13 := (e1 _ (by decide) (by decide)).trans O13
  replace O14 := (e1 _ (by decide) (by decide)).trans O14
  replace O15 := (e1 _ (by decide) (by decide)).trans O15
  replace O16 := (e1 _ (by decide) (by decide)).trans O16
  replace O17 := (e1 _ (by decide) (by decide)).trans O17
  replace O18 := (e1 _ (by decide) (by decide)).trans O18
  replace O19 := (e1 _ (by decide) (by decide)).trans O19
  replace O20 := n1_1
  replace O21 := (e1 _ (by decide) (by decide)).trans O21
  replace O22 := (e1 _ (by decide) (by decide)).trans O22
  replace O23 := (e1 _ (by decide) (by decide)).trans O23
  replace O24 := (e1 _ (by decide) (by decide)).trans O24
  replace O25 := (e1 _ (by decide) (by decide)).trans O25
  replace O26 := (e1 _ (by decide) (by decide)).trans O26
  replace O27 := (e1 _ (by decide) (by decide)).trans O27
  replace O28 := (e1 _ (by decide) (by decide)).trans O28
  replace hV : ∀ j, j < 8 → h_1 (j + 4) = some (wB (j + 4) (_ )) := fun j hj => (e1 _ (by omega) (by omega)).trans (hV j hj)
  refine G_aload_n 828 dL_law_827 rfl rfl rfl ?_
  refine G_aload_n 829 dL_law_828 rfl rfl rfl ?_
  refine G_iload_n 830 dL_law_829 rfl rfl rfl ?_
  refine G_iconst 831 1 dL_law_830 rfl (by decide) ?_
  refine G_iadd 832 dL_law_831 rfl ?_
  refine G_sld 833 lg.1 lg.2.1 lg.2.2.1 lg.2.2.2 dL_law_832 rfl h1 ?_
  refine G_aload_n 834 dL_law_833 rfl rfl rfl ?_
  refine G_iload_n 835 dL_law_834 rfl rfl rfl ?_
  refine G_iconst 836 2 dL_law_835 rfl (by decide) ?_
  refine G_iadd 837 dL_law_836 rfl ?_
  refine G_sld 838 lg.1 lg.2.1 lg.2.2.1 lg.2.2.2 dL_law_837 rfl h2 ?_
  refine G_callVI 841 (S_X10_bring X l O28 a1 (p := (xs (i + 1).toNatClampNeg)) (l0 := (xs (i + 2).toNatClampNeg))) dL_law_838 rfl kX10_bring lk_L_96 rfl O28 (by decide) hRc rfl (Nat.le_of_ble_eq_true rfl) (fun v_2 h_2 q_2 => ?_)
  obtain ⟨ev2, z1_2, n2_0, e2⟩ := q_2
  replace O0 := (e2 _ (by decide)).trans O0
  replace O1 := (e2 _ (by decide)).trans O1
  replace O2 := (e2 _ (by decide)).trans O2
  replace O3 := (e2 _ (by decide)).trans O3
  replace O12 := (e2 _ (by decide)).trans O12
  replace O13 := (e2 _ (by decide)).trans O13
  replace O14 := (e2 _ (by decide)).trans O14
  replace O15 := (e2 _ (by decide)).trans O15
  replace O16 := (e2 _ (by decide)).trans O16
  replace O17 := (e2 _ (by decide)).trans O17
  replace O18 := (e2 _ (by decide)).trans O18
  replace O19 := (e2 _ (by decide)).trans O19
  replace O20 := (e2 _ (by decide)).trans O20
  replace O21 := (e2 _ (by decide)).trans O21
  replace O22 := (e2 _ (by decide)).trans O22
  replace O23 := (e2 _ (by decide)).trans O23
  replace O24 := (e2 _ (by decide)).trans O24
  replace O25 := (e2 _ (by decide)).trans O25
  replace O26 := (e2 _ (by decide)).trans O26
  replace O27 := (e2 _ (by decide)).trans O27
  replace O28 := n2_0
  replace hV : ∀ j, j < 8 → h_2 (j + 4) = some (wB (j + 4) (_ )) := fun j hj => (e2 _ (by omega)).trans (hV j hj)
  obtain rfl : v_1 = v_2 := ev1.symm.trans ev2
  refine G_icmp_eq 1755 844 dL_law_841 (by decide) rfl (fun _ => ?_) (fun z => absurd rfl z)
  exact kk _ ⟨_, _, _, _, _, _, _, _, _, _, _, _, _, _, _, _, _, _, _, _, _, _, _, _, _, _, _, _, _, _, ⟨O0, O1, O2, O3, hV, O12, O13, O14, O15, O16, O17, O18, O19, O20, O21, O22, O23, O24, O25, O26, O27, O28⟩, ok⟩
set_option maxHeartbeats 4000000 in
set_option maxRecDepth 100000 in
theorem K_empty {G : GX} {X : En} {l : Launch} {nc ns : Nat} (hRc : nc ≤ 600000 ∧ ns ≤ 7302250) {b L : Nat} {xs : Nat → Int32} (lg : LG G X b L xs) {i : Int32} (h1 : vp_in (i + 1) L) (h2 : vp_in (i + 2) L) (h3 : vp_in (i + 3) L) (h4 : vp_in (i + 4) L) {h : Hp} (hI : Inv h) (kk : ∀ h', Inv h' → Ag G X l mL_law nc ns 1755 (lwL i) [] h') : Ag G X l mL_law nc ns 846 (lwL i) [] h := by
  obtain ⟨x, g, r, xi, np, kp, V, t12, n12, k12, t15, n15, im, T, z, W, x13, y14, y16, t17, n17, y18, y20, y22, y23, x24, s25, t25, y26, x27, ⟨O0, O1, O2, O3, hV, O12, O13, O14, O15, O16, O17, O18, O19, O20, O21, O22, O23, O24, O25, O26, O27, O28⟩, ok⟩ := hI
  obtain ⟨a1, a2, a3, a4, a5, a6, a7, a8, a9, a10, a11⟩ := id ok
  refine G_aload_n 847 dL_law_846 rfl rfl rfl ?_
  refine G_aload_n 848 dL_law_847 rfl rfl rfl ?_
  refine G_iload_n 849 dL_law_848 rfl rfl rfl ?_
  refine G_iconst 850 1 dL_law_849 rfl (by decide) ?_
  refine G_iadd 851 dL_law_850 rfl ?_
  refine G_sld 852 lg.1 lg.2.1 lg.2.2.1 lg.2.2.2 dL_law_851 rfl h1 ?_
  refine G_callVI 855 (S_X9_empty X l O0 O1 a1 O16 O19 O20 (v := (xs (i + 1).toNatClampNeg))) dL_law_852 rfl kX9_empty lk_L_97 rfl O0 (by decide) hRc rfl (Nat.le_of_ble_eq_true rfl) (fun v_1 h_1 q_1 => ?_)
  obtain ⟨ev1, z16_1, z20_1, n1_0, n1_1, n1_2, e1⟩ := q_1
  replace O0 := n1_0
  replace O1 := (e1 _ (by decide) (by decide) (by decide)).trans O1
  replace O2 := (e1 _ (by decide) (by decide) (by decide)).trans O2
  replace O3 := (e1 _ (by decide) (by decide) (by decide)).trans O3
  replace O12 := (e1 _ (by decide) (by decide) (by decide)).trans O12
  replace O13 := (e1 _ (by decide) (by decide) (by decide)).trans O13
  replace O14 := (e1 _ (by decide) (by decide) (by decide)).trans O14
  replace O15 := (e1 _ (by decide) (by decide) (by decide)).trans O15
  replace O16 := n1_1
  replace O17 := (e1 _ (by decide) (by decide) (by decide)).trans O17
  replace O18 := (e1 _ (by decide) (by decide) (by decide)).trans O18
  replace O19 := (e1 _ (by decide) (by decide) (by decide)).trans O19
  replace O20 := n1_2
  replace O21 := (e1 _ (by decide) (by decide) (by decide)).trans O21
  replace O22 := (e1 _ (by decide) (by decide) (by decide)).trans O22
  replace O23 := (e1 _ (by decide) (by decide) (by decide)).trans O23
  replace O24 := (e1 _ (by decide) (by decide) (by decide)).trans O24
  replace O25 := (e1 _ (by decide) (by decide) (by decide)).trans O25
  replace O26 := (e1 _ (by decide) (by decide) (by decide)).trans O26
  replace O27 := (e1 _ (by decide) (by decide) (by decide)).trans O27
  replace O28 := (e1 _ (by decide) (by decide) (by decide)).trans O28
  replace hV : ∀ j, j < 8 → h_1 (j + 4) = some (wB (j + 4) (_ )) := fun j hj => (e1 _ (by omega) (by omega) (by omega)).trans (hV j hj)
  refine G_aload_n 856 dL_law_855 rfl rfl rfl ?_
  refine G_aload_n 857 dL_law_856 rfl rfl rfl ?_
  refine G_iload_n 858 dL_law_857 rfl rfl rfl ?_
  refine G_iconst 859 1 dL_law_858 rfl (by decide) ?_
  refine G_iadd 860 dL_law_859 rfl ?_
  refine G_sld 861 lg.1 lg.2.1 lg.2.2.1 lg.2.2.2 dL_law_860 rfl h1 ?_
  refine G_callVI 864 (S_X10_empty X l O28 a1 (v := (xs (i + 1).toNatClampNeg))) dL_law_861 rfl kX10_empty lk_L_100 rfl O28 (by decide) hRc rfl (Nat.le_of_ble_eq_true rfl) (fun v_2 h_2 q_2 => ?_)
  obtain ⟨ev2, z1_2, n2_0, e2⟩ := q_2
  replace O0 := (e2 _ (by decide)).trans O0
  replace O1 := (e2 _ (by decide)).trans O1
  replace O2 := (e2 _ (by decide)).trans O2
  replace O3 := (e2 _ (by decide)).trans O3
  replace O12 := (e2 _ (by decide)).trans O12
  replace O13 := (e2 _ (by decide)).trans O13
  replace O14 := (e2 _ (by decide)).trans O14
  replace O15 := (e2 _ (by decide)).trans O15
  replace O16 := (e2 _ (by decide)).trans O16
  replace O17 := (e2 _ (by decide)).trans O17
  replace O18 := (e2 _ (by decide)).trans O18
  replace O19 := (e2 _ (by decide)).trans O19
  replace O20 := (e2 _ (by decide)).trans O20
  replace O21 := (e2 _ (by decide)).trans O21
  replace O22 := (e2 _ (by decide)).trans O22
  replace O23 := (e2 _ (by decide)).trans O23
  replace O24 := (e2 _ (by decide)).trans O24
  replace O25 := (e2 _ (by decide)).trans O25
  replace O26 := (e2 _ (by decide)).trans O26
  replace O27 := (e2 _ (by decide)).trans O27
  replace O28 := n2_0
  replace hV : ∀ j, j < 8 → h_2 (j + 4) = some (wB (j + 4) (_ )) := fun j hj => (e2 _ (by omega)).trans (hV j hj)
  obtain rfl : v_1 = v_2 := ev1.symm.trans ev2
  refine G_icmp_eq 1755 867 dL_law_864 (by decide) rfl (fun _ => ?_) (fun z => absurd rfl z)
  exact kk _ ⟨_, _, _, _, _, _, _, _, _, _, _, _, _, _, _, _, _, _, _, _, _, _, _, _, _, _, _, _, _, _, ⟨O0, O1, O2, O3, hV, O12, O13, O14, O15, O16, O17, O18, O19, O20, O21, O22, O23, O24, O25, O26, O27, O28⟩, ok⟩
set_option maxHeartbeats 4000000 in
set_option maxRecDepth 100000 in
theorem K_had {G : GX} {X : En} {l : Launch} {nc ns : Nat} (hRc : nc ≤ 600000 ∧ ns ≤ 7302250) {b L : Nat} {xs : Nat → Int32} (lg : LG G X b L xs) {i : Int32} (h1 : vp_in (i + 1) L) (h2 : vp_in (i + 2) L) (h3 : vp_in (i + 3) L) (h4 : vp_in (i + 4) L) {h : Hp} (hI : Inv h) (kk : ∀ h', Inv h' → Ag G X l mL_law nc ns 1755 (lwL i) [] h') : Ag G X l mL_law nc ns 869 (lwL i) [] h := by
  obtain ⟨x, g, r, xi, np, kp, V, t12, n12, k12, t15, n15, im, T, z, W, x13, y14, y16, t17, n17, y18, y20, y22, y23, x24, s25, t25, y26, x27, ⟨O0, O1, O2, O3, hV, O12, O13, O14, O15, O16, O17, O18, O19, O20, O21, O22, O23, O24, O25, O26, O27, O28⟩, ok⟩ := hI
  obtain ⟨a1, a2, a3, a4, a5, a6, a7, a8, a9, a10, a11⟩ := id ok
  refine G_aload_n 870 dL_law_869 rfl rfl rfl ?_
  refine G_aload_n 871 dL_law_870 rfl rfl rfl ?_
  refine G_iload_n 872 dL_law_871 rfl rfl rfl ?_
  refine G_iconst 873 1 dL_law_872 rfl (by decide) ?_
  refine G_iadd 874 dL_law_873 rfl ?_
  refine G_sld 875 lg.1 lg.2.1 lg.2.2.1 lg.2.2.2 dL_law_874 rfl h1 ?_
  refine G_callVI 878 (S_X9_had X l O0 O1 a1 O15 a7 O17 O18 (v := (xs (i + 1).toNatClampNeg))) dL_law_875 rfl kX9_had lk_L_101 rfl O0 (by decide) hRc rfl (Nat.le_of_ble_eq_true rfl) (fun v_1 h_1 q_1 => ?_)
  obtain ⟨ev1, g17_1, q17_1, z18_1, n1_0, n1_1, n1_2, e1⟩ := q_1
  replace O0 := n1_0
  replace O1 := (e1 _ (by decide) (by decide) (by decide)).trans O1
  replace O2 := (e1 _ (by decide) (by decide) (by decide)).trans O2
  replace O3 := (e1 _ (by decide) (by decide) (by decide)).trans O3
  replace O12 := (e1 _ (by decide) (by decide) (by decide)).trans O12
  replace O13 := (e1 _ (by decide) (by decide) (by decide)).trans O13
  replace O14 := (e1 _ (by decide) (by decide) (by decide)).trans O14
  replace O15 := (e1 _ (by decide) (by decide) (by decide)).trans O15
  replace O16 := (e1 _ (by decide) (by decide) (by decide)).trans O16
  replace O17 := n1_1
  replace O18 := n1_2
  replace O19 := (e1 _ (by decide) (by decide) (by decide)).trans O19
  replace O20 := (e1 _ (by decide) (by decide) (by decide)).trans O20
  replace O21 := (e1 _ (by decide) (by decide) (by decide)).trans O21
  replace O22 := (e1 _ (by decide) (by decide) (by decide)).trans O22
  replace O23 := (e1 _ (by decide) (by decide) (by decide)).trans O23
  replace O24 := (e1 _ (by decide) (by decide) (by decide)).trans O24
  replace O25 := (e1 _ (by decide) (by decide) (by decide)).trans O25
  replace O26 := (e1 _ (by decide) (by decide) (by decide)).trans O26
  replace O27 := (e1 _ (by decide) (by decide) (by decide)).trans O27
  replace O28 := (e1 _ (by decide) (by decide) (by decide)).trans O28
  replace hV : ∀ j, j < 8 → h_1 (j + 4) = some (wB (j + 4) (_ )) := fun j hj => (e1 _ (by omega) (by omega) (by omega)).trans (hV j hj)
  refine G_aload_n 879 dL_law_878 rfl rfl rfl ?_
  refine G_aload_n 880 dL_law_879 rfl rfl rfl ?_
  refine G_iload_n 881 dL_law_880 rfl rfl rfl ?_
  refine G_iconst 882 1 dL_law_881 rfl (by decide) ?_
  refine G_iadd 883 dL_law_882 rfl ?_
  refine G_sld 884 lg.1 lg.2.1 lg.2.2.1 lg.2.2.2 dL_law_883 rfl h1 ?_
  refine G_callVI 887 (S_X10_had X l O28 a1 a7 a8 (v := (xs (i + 1).toNatClampNeg))) dL_law_884 rfl kX10_had lk_L_104 rfl O28 (by decide) hRc rfl (Nat.le_of_ble_eq_true rfl) (fun v_2 h_2 q_2 => ?_)
  obtain ⟨ev2, z1_2, n2_0, e2⟩ := q_2
  replace O0 := (e2 _ (by decide)).trans O0
  replace O1 := (e2 _ (by decide)).trans O1
  replace O2 := (e2 _ (by decide)).trans O2
  replace O3 := (e2 _ (by decide)).trans O3
  replace O12 := (e2 _ (by decide)).trans O12
  replace O13 := (e2 _ (by decide)).trans O13
  replace O14 := (e2 _ (by decide)).trans O14
  replace O15 := (e2 _ (by decide)).trans O15
  replace O16 := (e2 _ (by decide)).trans O16
  replace O17 := (e2 _ (by decide)).trans O17
  replace O18 := (e2 _ (by decide)).trans O18
  replace O19 := (e2 _ (by decide)).trans O19
  replace O20 := (e2 _ (by decide)).trans O20
  replace O21 := (e2 _ (by decide)).trans O21
  replace O22 := (e2 _ (by decide)).trans O22
  replace O23 := (e2 _ (by decide)).trans O23
  replace O24 := (e2 _ (by decide)).trans O24
  replace O25 := (e2 _ (by decide)).trans O25
  replace O26 := (e2 _ (by decide)).trans O26
  replace O27 := (e2 _ (by decide)).trans O27
  replace O28 := n2_0
  replace hV : ∀ j, j < 8 → h_2 (j + 4) = some (wB (j + 4) (_ )) := fun j hj => (e2 _ (by omega)).trans (hV j hj)
  obtain rfl : v_1 = v_2 := ev1.symm.trans ev2
  refine G_icmp_eq 1755 890 dL_law_887 (by decide) rfl (fun _ => ?_) (fun z => absurd rfl z)
  exact kk _ ⟨_, _, _, _, _, _, _, _, _, _, _, _, _, _, _, _, _, _, _, _, _, _, _, _, _, _, _, _, _, _, ⟨O0, O1, O2, O3, hV, O12, O13, O14, O15, O16, O17, O18, O19, O20, O21, O22, O23, O24, O25, O26, O27, O28⟩, ok⟩
set_option maxHeartbeats 4000000 in
set_option maxRecDepth 100000 in
theorem K_inIt {G : GX} {X : En} {l : Launch} {nc ns : Nat} (hRc : nc ≤ 600000 ∧ ns ≤ 7302250) {b L : Nat} {xs : Nat → Int32} (lg : LG G X b L xs) {i : Int32} (h1 : vp_in (i + 1) L) (h2 : vp_in (i + 2) L) (h3 : vp_in (i + 3) L) (h4 : vp_in (i + 4) L) {h : Hp} (hI : Inv h) (kk : ∀ h', Inv h' → Ag G X l mL_law nc ns 1755 (lwL i) [] h') : Ag G X l mL_law nc ns 892 (lwL i) [] h := by
  obtain ⟨x, g, r, xi, np, kp, V, t12, n12, k12, t15, n15, im, T, z, W, x13, y14, y16, t17, n17, y18, y20, y22, y23, x24, s25, t25, y26, x27, ⟨O0, O1, O2, O3, hV, O12, O13, O14, O15, O16, O17, O18, O19, O20, O21, O22, O23, O24, O25, O26, O27, O28⟩, ok⟩ := hI
  obtain ⟨a1, a2, a3, a4, a5, a6, a7, a8, a9, a10, a11⟩ := id ok
  refine G_aload_n 893 dL_law_892 rfl rfl rfl ?_
  refine G_aload_n 894 dL_law_893 rfl rfl rfl ?_
  refine G_iload_n 895 dL_law_894 rfl rfl rfl ?_
  refine G_iconst 896 1 dL_law_895 rfl (by decide) ?_
  refine G_iadd 897 dL_law_896 rfl ?_
  refine G_sld 898 lg.1 lg.2.1 lg.2.2.1 lg.2.2.2 dL_law_897 rfl h1 ?_
  refine G_aload_n 899 dL_law_898 rfl rfl rfl ?_
  refine G_iload_n 900 dL_law_899 rfl rfl rfl ?_
  refine G_iconst 901 2 dL_law_900 rfl (by decide) ?_
  refine G_iadd 902 dL_law_901 rfl ?_
  refine G_sld 903 lg.1 lg.2.1 lg.2.2.1 lg.2.2.2 dL_law_902 rfl h2 ?_
  refine G_callVL 906 (S_X9_inIt X l O0 O1 a1 O15 a7 O17 O18 (c := (xs (i + 1).toNatClampNeg)) (v := (xs (i + 2).toNatClampNeg))) dL_law_903 rfl kX9_inIt lk_L_105 rfl O0 (by decide) hRc rfl (Nat.le_of_ble_eq_true rfl) (fun v_1 h_1 q_1 => ?_)
  obtain ⟨ev1, g17_1, q17_1, z18_1, n1_0, n1_1, n1_2, e1⟩ := q_1
  replace O0 := n1_0
  replace O1 := (e1 _ (by decide) (by decide) (by decide)).trans O1
  replace O2 := (e1 _ (by decide) (by decide) (by decide)).trans O2
  replace O3 := (e1 _ (by decide) (by decide) (by decide)).trans O3
  replace O12 := (e1 _ (by decide) (by decide) (by decide)).trans O12
  replace O13 := (e1 _ (by decide) (by decide) (by decide)).trans O13
  replace O14 := (e1 _ (by decide) (by decide) (by decide)).trans O14
  replace O15 := (e1 _ (by decide) (by decide) (by decide)).trans O15
  replace O16 := (e1 _ (by decide) (by decide) (by decide)).trans O16
  replace O17 := n1_1
  replace O18 := n1_2
  replace O19 := (e1 _ (by decide) (by decide) (by decide)).trans O19
  replace O20 := (e1 _ (by decide) (by decide) (by decide)).trans O20
  replace O21 := (e1 _ (by decide) (by decide) (by decide)).trans O21
  replace O22 := (e1 _ (by decide) (by decide) (by decide)).trans O22
  replace O23 := (e1 _ (by decide) (by decide) (by decide)).trans O23
  replace O24 := (e1 _ (by decide) (by decide) (by decide)).trans O24
  replace O25 := (e1 _ (by decide) (by decide) (by decide)).trans O25
  replace O26 := (e1 _ (by decide) (by decide) (by decide)).trans O26
  replace O27 := (e1 _ (by decide) (by decide) (by decide)).trans O27
  replace O28 := (e1 _ (by decide) (by decide) (by decide)).trans O28
  replace hV : ∀ j, j < 8 → h_1 (j + 4) = some (wB (j + 4) (_ )) := fun j hj => (e1 _ (by omega) (by omega) (by omega)).trans (hV j hj)
  refine G_aload_n 907 dL_law_906 rfl rfl rfl ?_
  refine G_aload_n 908 dL_law_907 rfl rfl rfl ?_
  refine G_iload_n 909 dL_law_908 rfl rfl rfl ?_
  refine G_iconst 910 1 dL_law_909 rfl (by decide) ?_
  refine G_iadd 911 dL_law_910 rfl ?_
  refine G_sld 912 lg.1 lg.2.1 lg.2.2.1 lg.2.2.2 dL_law_911 rfl h1 ?_
  refine G_aload_n 913 dL_law_912 rfl rfl rfl ?_
  refine G_iload_n 914 dL_law_913 rfl rfl rfl ?_
  refine G_iconst 915 2 dL_law_914 rfl (by decide) ?_
  refine G_iadd 916 dL_law_915 rfl ?_
  refine G_sld 917 lg.1 lg.2.1 lg.2.2.1 lg.2.2.2 dL_law_916 rfl h2 ?_
  refine G_callVL 920 (S_X10_inIt X l O28 a1 a7 a8 (t := (xs (i + 1).toNatClampNeg)) (v := (xs (i + 2).toNatClampNeg))) dL_law_917 rfl kX10_inIt lk_L_109 rfl O28 (by decide) hRc rfl (Nat.le_of_ble_eq_true rfl) (fun v_2 h_2 q_2 => ?_)
  obtain ⟨ev2, z1_2, n2_0, e2⟩ := q_2
  replace O0 := (e2 _ (by decide)).trans O0
  replace O1 := (e2 _ (by decide)).trans O1
  replace O2 := (e2 _ (by decide)).trans O2
  replace O3 := (e2 _ (by decide)).trans O3
  replace O12 := (e2 _ (by decide)).trans O12
  replace O13 := (e2 _ (by decide)).trans O13
  replace O14 := (e2 _ (by decide)).trans O14
  replace O15 := (e2 _ (by decide)).trans O15
  replace O16 := (e2 _ (by decide)).trans O16
  replace O17 := (e2 _ (by decide)).trans O17
  replace O18 := (e2 _ (by decide)).trans O18
  replace O19 := (e2 _ (by decide)).trans O19
  replace O20 := (e2 _ (by decide)).trans O20
  replace O21 := (e2 _ (by decide)).trans O21
  replace O22 := (e2 _ (by decide)).trans O22
  replace O23 := (e2 _ (by decide)).trans O23
  replace O24 := (e2 _ (by decide)).trans O24
  replace O25 := (e2 _ (by decide)).trans O25
  replace O26 := (e2 _ (by decide)).trans O26
  replace O27 := (e2 _ (by decide)).trans O27
  replace O28 := n2_0
  replace hV : ∀ j, j < 8 → h_2 (j + 4) = some (wB (j + 4) (_ )) := fun j hj => (e2 _ (by omega)).trans (hV j hj)
  obtain rfl : v_1 = v_2 := ev1.symm.trans ev2
  refine G_lcmp 921 dL_law_920 rfl ?_
  refine G_if_eq 1755 924 dL_law_921 (by decide) rfl (fun _ => ?_) (fun z => absurd (lg_same _) z)
  exact kk _ ⟨_, _, _, _, _, _, _, _, _, _, _, _, _, _, _, _, _, _, _, _, _, _, _, _, _, _, _, _, _, _, ⟨O0, O1, O2, O3, hV, O12, O13, O14, O15, O16, O17, O18, O19, O20, O21, O22, O23, O24, O25, O26, O27, O28⟩, ok⟩
set_option maxHeartbeats 4000000 in
set_option maxRecDepth 100000 in
theorem K_feel {G : GX} {X : En} {l : Launch} {nc ns : Nat} (hRc : nc ≤ 600000 ∧ ns ≤ 7302250) {b L : Nat} {xs : Nat → Int32} (lg : LG G X b L xs) {i : Int32} (h1 : vp_in (i + 1) L) (h2 : vp_in (i + 2) L) (h3 : vp_in (i + 3) L) (h4 : vp_in (i + 4) L) {h : Hp} (hI : Inv h) (kk : ∀ h', Inv h' → Ag G X l mL_law nc ns 1755 (lwL i) [] h') : Ag G X l mL_law nc ns 926 (lwL i) [] h := by
  obtain ⟨x, g, r, xi, np, kp, V, t12, n12, k12, t15, n15, im, T, z, W, x13, y14, y16, t17, n17, y18, y20, y22, y23, x24, s25, t25, y26, x27, ⟨O0, O1, O2, O3, hV, O12, O13, O14, O15, O16, O17, O18, O19, O20, O21, O22, O23, O24, O25, O26, O27, O28⟩, ok⟩ := hI
  obtain ⟨a1, a2, a3, a4, a5, a6, a7, a8, a9, a10, a11⟩ := id ok
  refine G_aload_n 927 dL_law_926 rfl rfl rfl ?_
  refine G_aload_n 928 dL_law_927 rfl rfl rfl ?_
  refine G_iload_n 929 dL_law_928 rfl rfl rfl ?_
  refine G_iconst 930 1 dL_law_929 rfl (by decide) ?_
  refine G_iadd 931 dL_law_930 rfl ?_
  refine G_sld 932 lg.1 lg.2.1 lg.2.2.1 lg.2.2.2 dL_law_931 rfl h1 ?_
  refine G_callVI 935 (S_X9_feel X l O0 O1 a1 O15 a7 O17 O18 (v := (xs (i + 1).toNatClampNeg))) dL_law_932 rfl kX9_feel lk_L_110 rfl O0 (by decide) hRc rfl (Nat.le_of_ble_eq_true rfl) (fun v_1 h_1 q_1 => ?_)
  obtain ⟨ev1, g17_1, q17_1, z18_1, n1_0, n1_1, n1_2, e1⟩ := q_1
  replace O0 := n1_0
  replace O1 := (e1 _ (by decide) (by decide) (by decide)).trans O1
  replace O2 := (e1 _ (by decide) (by decide) (by decide)).trans O2
  replace O3 := (e1 _ (by decide) (by decide) (by decide)).trans O3
  replace O12 := (e1 _ (by decide) (by decide) (by decide)).trans O12
  replace O13 := (e1 _ (by decide) (by decide) (by decide)).trans O13
  replace O14 := (e1 _ (by decide) (by decide) (by decide)).trans O14
  replace O15 := (e1 _ (by decide) (by decide) (by decide)).trans O15
  replace O16 := (e1 _ (by decide) (by decide) (by decide)).trans O16
  replace O17 := n1_1
  replace O18 := n1_2
  replace O19 := (e1 _ (by decide) (by decide) (by decide)).trans O19
  replace O20 := (e1 _ (by decide) (by decide) (by decide)).trans O20
  replace O21 := (e1 _ (by decide) (by decide) (by decide)).trans O21
  replace O22 := (e1 _ (by decide) (by decide) (by decide)).trans O22
  replace O23 := (e1 _ (by decide) (by decide) (by decide)).trans O23
  replace O24 := (e1 _ (by decide) (by decide) (by decide)).trans O24
  replace O25 := (e1 _ (by decide) (by decide) (by decide)).trans O25
  replace O26 := (e1 _ (by decide) (by decide) (by decide)).trans O26
  replace O27 := (e1 _ (by decide) (by decide) (by decide)).trans O27
  replace O28 := (e1 _ (by decide) (by decide) (by decide)).trans O28
  replace hV : ∀ j, j < 8 → h_1 (j + 4) = some (wB (j + 4) (_ )) := fun j hj => (e1 _ (by omega) (by omega) (by omega)).trans (hV j hj)
  refine G_aload_n 936 dL_law_935 rfl rfl rfl ?_
  refine G_aload_n 937 dL_law_936 rfl rfl rfl ?_
  refine G_iload_n 938 dL_law_937 rfl rfl rfl ?_
  refine G_iconst 939 1 dL_law_938 rfl (by decide) ?_
  refine G_iadd 940 dL_law_939 rfl ?_
  refine G_sld 941 lg.1 lg.2.1 lg.2.2.1 lg.2.2.2 dL_law_940 rfl h1 ?_
  refine G_callVI 944 (S_X10_feel X l O28 a1 a7 a8 (v := (xs (i + 1).toNatClampNeg))) dL_law_941 rfl kX10_feel lk_L_113 rfl O28 (by decide) hRc rfl (Nat.le_of_ble_eq_true rfl) (fun v_2 h_2 q_2 => ?_)
  obtain ⟨ev2, z1_2, n2_0, e2⟩ := q_2
  replace O0 := (e2 _ (by decide)).trans O0
  replace O1 := (e2 _ (by decide)).trans O1
  replace O2 := (e2 _ (by decide)).trans O2
  replace O3 := (e2 _ (by decide)).trans O3
  replace O12 := (e2 _ (by decide)).trans O12
  replace O13 := (e2 _ (by decide)).trans O13
  replace O14 := (e2 _ (by decide)).trans O14
  replace O15 := (e2 _ (by decide)).trans O15
  replace O16 := (e2 _ (by decide)).trans O16
  replace O17 := (e2 _ (by decide)).trans O17
  replace O18 := (e2 _ (by decide)).trans O18
  replace O19 := (e2 _ (by decide)).trans O19
  replace O20 := (e2 _ (by decide)).trans O20
  replace O21 := (e2 _ (by decide)).trans O21
  replace O22 := (e2 _ (by decide)).trans O22
  replace O23 := (e2 _ (by decide)).trans O23
  replace O24 := (e2 _ (by decide)).trans O24
  replace O25 := (e2 _ (by decide)).trans O25
  replace O26 := (e2 _ (by decide)).trans O26
  replace O27 := (e2 _ (by decide)).trans O27
  replace O28 := n2_0
  replace hV : ∀ j, j < 8 → h_2 (j + 4) = some (wB (j + 4) (_ )) := fun j hj => (e2 _ (by omega)).trans (hV j hj)
  obtain rfl : v_1 = v_2 := ev1.symm.trans ev2
  refine G_icmp_eq 1755 947 dL_law_944 (by decide) rfl (fun _ => ?_) (fun z => absurd rfl z)
  exact kk _ ⟨_, _, _, _, _, _, _, _, _, _, _, _, _, _, _, _, _, _, _, _, _, _, _, _, _, _, _, _, _, _, ⟨O0, O1, O2, O3, hV, O12, O13, O14, O15, O16, O17, O18, O19, O20, O21, O22, O23, O24, O25, O26, O27, O28⟩, ok⟩
set_option maxHeartbeats 4000000 in
set_option maxRecDepth 100000 in
theorem K_which {G : GX} {X : En} {l : Launch} {nc ns : Nat} (hRc : nc ≤ 600000 ∧ ns ≤ 7302250) {b L : Nat} {xs : Nat → Int32} (lg : LG G X b L xs) {i : Int32} (h1 : vp_in (i + 1) L) (h2 : vp_in (i + 2) L) (h3 : vp_in (i + 3) L) (h4 : vp_in (i + 4) L) {h : Hp} (hI : Inv h) (kk : ∀ h', Inv h' → Ag G X l mL_law nc ns 1755 (lwL i) [] h') : Ag G X l mL_law nc ns 949 (lwL i) [] h := by
  obtain ⟨x, g, r, xi, np, kp, V, t12, n12, k12, t15, n15, im, T, z, W, x13, y14, y16, t17, n17, y18, y20, y22, y23, x24, s25, t25, y26, x27, ⟨O0, O1, O2, O3, hV, O12, O13, O14, O15, O16, O17, O18, O19, O20, O21, O22, O23, O24, O25, O26, O27, O28⟩, ok⟩ := hI
  obtain ⟨a1, a2, a3, a4, a5, a6, a7, a8, a9, a10, a11⟩ := id ok
  refine G_aload_n 950 dL_law_949 rfl rfl rfl ?_
  refine G_aload_n 951 dL_law_950 rfl rfl rfl ?_
  refine G_iload_n 952 dL_law_951 rfl rfl rfl ?_
  refine G_iconst 953 1 dL_law_952 rfl (by decide) ?_
  refine G_iadd 954 dL_law_953 rfl ?_
  refine G_sld 955 lg.1 lg.2.1 lg.2.2.1 lg.2.2.2 dL_law_954 rfl h1 ?_
  refine G_aload_n 956 dL_law_955 rfl rfl rfl ?_
  refine G_iload_n 957 dL_law_956 rfl rfl rfl ?_
  refine G_iconst 958 2 dL_law_957 rfl (by decide) ?_
  refine G_iadd 959 dL_law_958 rfl ?_
  refine G_sld 960 lg.1 lg.2.1 lg.2.2.1 lg.2.2.2 dL_law_959 rfl h2 ?_
  refine G_aload_n 961 dL_law_960 rfl rfl rfl ?_
  refine G_iload_n 962 dL_law_961 rfl rfl rfl ?_
  refine G_iconst 963 3 dL_law_962 rfl (by decide) ?_
  refine G_iadd 964 dL_law_963 rfl ?_
  refine G_sld 965 lg.1 lg.2.1 lg.2.2.1 lg.2.2.2 dL_law_964 rfl h3 ?_
  refine G_callVI 968 (S_X9_which X l O0 O1 a1 O15 a7 O21 O22 O24 (p := (xs (i + 1).toNatClampNeg)) (l0 := (xs (i + 2).toNatClampNeg)) (v := (xs (i + 3).toNatClampNeg))) dL_law_965 rfl kX9_which lk_L_114 rfl O0 (by decide) hRc rfl (Nat.le_of_ble_eq_true rfl) (fun v_1 h_1 q_1 => ?_)
  obtain ⟨ev1, z22_1, z24_1, n1_0, n1_1, n1_2, e1⟩ := q_1
  replace O0 := n1_0
  replace O1 := (e1 _ (by decide) (by decide) (by decide)).trans O1
  replace O2 := (e1 _ (by decide) (by decide) (by decide)).trans O2
  replace O3 := (e1 _ (by decide) (by decide) (by decide)).trans O3
  replace O12 := (e1 _ (by decide) (by decide) (by decide)).trans O12
  replace O13 := (e1 _ (by decide) (by decide) (by decide)).trans O13
  replace O14 := (e1 _ (by decide) (by decide) (by decide)).trans O14
  replace O15 := (e1 _ (by decide) (by decide) (by decide)).trans O15
  replace O16 := (e1 _ (by decide) (by decide) (by decide)).trans O16
  replace O17 := (e1 _ (by decide) (by decide) (by decide)).trans O17
  replace O18 := (e1 _ (by decide) (by decide) (by decide)).trans O18
  replace O19 := (e1 _ (by decide) (by decide) (by decide)).trans O19
  replace O20 := (e1 _ (by decide) (by decide) (by decide)).trans O20
  replace O21 := (e1 _ (by decide) (by decide) (by decide)).trans O21
  replace O22 := n1_1
  replace O23 := (e1 _ (by decide) (by decide) (by decide)).trans O23
  replace O24 := n1_2
  replace O25 := (e1 _ (by decide) (by decide) (by decide)).trans O25
  replace O26 := (e1 _ (by decide) (by decide) (by decide)).trans O26
  replace O27 := (e1 _ (by decide) (by decide) (by decide)).trans O27
  replace O28 := (e1 _ (by decide) (by decide) (by decide)).trans O28
  replace hV : ∀ j, j < 8 → h_1 (j + 4) = some (wB (j + 4) (_ )) := fun j hj => (e1 _ (by omega) (by omega) (by omega)).trans (hV j hj)
  refine G_aload_n 969 dL_law_968 rfl rfl rfl ?_
  refine G_aload_n 970 dL_law_969 rfl rfl rfl ?_
  refine G_iload_n 971 dL_law_970 rfl rfl rfl ?_
  refine G_iconst 972 1 dL_law_971 rfl (by decide) ?_
  refine G_iadd 973 dL_law_972 rfl ?_
  refine G_sld 974 lg.1 lg.2.1 lg.2.2.1 lg.2.2.2 dL_law_973 rfl h1 ?_
  refine G_aload_n 975 dL_law_974 rfl rfl rfl ?_
  refine G_iload_n 976 dL_law_975 rfl rfl rfl ?_
  refine G_iconst 977 2 dL_law_976 rfl (by decide) ?_
  refine G_iadd 978 dL_law_977 rfl ?_
  refine G_sld 979 lg.1 lg.2.1 lg.2.2.1 lg.2.2.2 dL_law_978 rfl h2 ?_
  refine G_aload_n 980 dL_law_979 rfl rfl rfl ?_
  refine G_iload_n 981 dL_law_980 rfl rfl rfl ?_
  refine G_iconst 982 3 dL_law_981 rfl (by decide) ?_
  refine G_iadd 983 dL_law_982 rfl ?_
  refine G_sld 984 lg.1 lg.2.1 lg.2.2.1 lg.2.2.2 dL_law_983 rfl h3 ?_
  refine G_callVI 987 (S_X10_which X l O28 a1 a7 a8 (p := (xs (i + 1).toNatClampNeg)) (l0 := (xs (i + 2).toNatClampNeg)) (v := (xs (i + 3).toNatClampNeg))) dL_law_984 rfl kX10_which lk_L_117 rfl O28 (by decide) hRc rfl (Nat.le_of_ble_eq_true rfl) (fun v_2 h_2 q_2 => ?_)
  obtain ⟨ev2, z1_2, n2_0, e2⟩ := q_2
  replace O0 := (e2 _ (by decide)).trans O0
  replace O1 := (e2 _ (by decide)).trans O1
  replace O2 := (e2 _ (by decide)).trans O2
  replace O3 := (e2 _ (by decide)).trans O3
  replace O12 := (e2 _ (by decide)).trans O12
  replace O13 := (e2 _ (by decide)).trans O13
  replace O14 := (e2 _ (by decide)).trans O14
  replace O15 := (e2 _ (by decide)).trans O15
  replace O16 := (e2 _ (by decide)).trans O16
  replace O17 := (e2 _ (by decide)).trans O17
  replace O18 := (e2 _ (by decide)).trans O18
  replace O19 := (e2 _ (by decide)).trans O19
  replace O20 := (e2 _ (by decide)).trans O20
  replace O21 := (e2 _ (by decide)).trans O21
  replace O22 := (e2 _ (by decide)).trans O22
  replace O23 := (e2 _ (by decide)).trans O23
  replace O24 := (e2 _ (by decide)).trans O24
  replace O25 := (e2 _ (by decide)).trans O25
  replace O26 := (e2 _ (by decide)).trans O26
  replace O27 := (e2 _ (by decide)).trans O27
  replace O28 := n2_0
  replace hV : ∀ j, j < 8 → h_2 (j + 4) = some (wB (j + 4) (_ )) := fun j hj => (e2 _ (by omega)).trans (hV j hj)
  obtain rfl : v_1 = v_2 := ev1.symm.trans ev2
  refine G_icmp_eq 1755 990 dL_law_987 (by decide) rfl (fun _ => ?_) (fun z => absurd rfl z)
  exact kk _ ⟨_, _, _, _, _, _, _, _, _, _, _, _, _, _, _, _, _, _, _, _, _, _, _, _, _, _, _, _, _, _, ⟨O0, O1, O2, O3, hV, O12, O13, O14, O15, O16, O17, O18, O19, O20, O21, O22, O23, O24, O25, O26, O27, O28⟩, ok⟩
set_option maxHeartbeats 4000000 in
set_option maxRecDepth 100000 in
theorem K_tray {G : GX} {X : En} {l : Launch} {nc ns : Nat} (hRc : nc ≤ 600000 ∧ ns ≤ 7302250) {b L : Nat} {xs : Nat → Int32} (lg : LG G X b L xs) {i : Int32} (h1 : vp_in (i + 1) L) (h2 : vp_in (i + 2) L) (h3 : vp_in (i + 3) L) (h4 : vp_in (i + 4) L) {h : Hp} (hI : Inv h) (kk : ∀ h', Inv h' → Ag G X l mL_law nc ns 1755 (lwL i) [] h') : Ag G X l mL_law nc ns 992 (lwL i) [] h := by
  obtain ⟨x, g, r, xi, np, kp, V, t12, n12, k12, t15, n15, im, T, z, W, x13, y14, y16, t17, n17, y18, y20, y22, y23, x24, s25, t25, y26, x27, ⟨O0, O1, O2, O3, hV, O12, O13, O14, O15, O16, O17, O18, O19, O20, O21, O22, O23, O24, O25, O26, O27, O28⟩, ok⟩ := hI
  obtain ⟨a1, a2, a3, a4, a5, a6, a7, a8, a9, a10, a11⟩ := id ok
  refine G_aload_n 993 dL_law_992 rfl rfl rfl ?_
  refine G_aload_n 994 dL_law_993 rfl rfl rfl ?_
  refine G_iload_n 995 dL_law_994 rfl rfl rfl ?_
  refine G_iconst 996 1 dL_law_995 rfl (by decide) ?_
  refine G_iadd 997 dL_law_996 rfl ?_
  refine G_sld 998 lg.1 lg.2.1 lg.2.2.1 lg.2.2.2 dL_law_997 rfl h1 ?_
  refine G_callVI 1001 (S_X9_tray X l O0 O1 a1 O25 O26 (v := (xs (i + 1).toNatClampNeg))) dL_law_998 rfl kX9_tray lk_L_118 rfl O0 (by decide) hRc rfl (Nat.le_of_ble_eq_true rfl) (fun v_1 h_1 q_1 => ?_)
  obtain ⟨ev1, z25_1, z26_1, n1_0, n1_1, n1_2, e1⟩ := q_1
  replace O0 := n1_0
  replace O1 := (e1 _ (by decide) (by decide) (by decide)).trans O1
  replace O2 := (e1 _ (by decide) (by decide) (by decide)).trans O2
  replace O3 := (e1 _ (by decide) (by decide) (by decide)).trans O3
  replace O12 := (e1 _ (by decide) (by decide) (by decide)).trans O12
  replace O13 := (e1 _ (by decide) (by decide) (by decide)).trans O13
  replace O14 := (e1 _ (by decide) (by decide) (by decide)).trans O14
  replace O15 := (e1 _ (by decide) (by decide) (by decide)).trans O15
  replace O16 := (e1 _ (by decide) (by decide) (by decide)).trans O16
  replace O17 := (e1 _ (by decide) (by decide) (by decide)).trans O17
  replace O18 := (e1 _ (by decide) (by decide) (by decide)).trans O18
  replace O19 := (e1 _ (by decide) (by decide) (by decide)).trans O19
  replace O20 := (e1 _ (by decide) (by decide) (by decide)).trans O20
  replace O21 := (e1 _ (by decide) (by decide) (by decide)).trans O21
  replace O22 := (e1 _ (by decide) (by decide) (by decide)).trans O22
  replace O23 := (e1 _ (by decide) (by decide) (by decide)).trans O23
  replace O24 := (e1 _ (by decide) (by decide) (by decide)).trans O24
  replace O25 := n1_1
  replace O26 := n1_2
  replace O27 := (e1 _ (by decide) (by decide) (by decide)).trans O27
  replace O28 := (e1 _ (by decide) (by decide) (by decide)).trans O28
  replace hV : ∀ j, j < 8 → h_1 (j + 4) = some (wB (j + 4) (_ )) := fun j hj => (e1 _ (by omega) (by omega) (by omega)).trans (hV j hj)
  refine G_aload_n 1002 dL_law_1001 rfl rfl rfl ?_
  refine G_aload_n 1003 dL_law_1002 rfl rfl rfl ?_
  refine G_iload_n 1004 dL_law_1003 rfl rfl rfl ?_
  refine G_iconst 1005 1 dL_law_1004 rfl (by decide) ?_
  refine G_iadd 1006 dL_law_1005 rfl ?_
  refine G_sld 1007 lg.1 lg.2.1 lg.2.2.1 lg.2.2.2 dL_law_1006 rfl h1 ?_
  refine G_callVI 1010 (S_X10_tray X l O28 a1 (v := (xs (i + 1).toNatClampNeg))) dL_law_1007 rfl kX10_tray lk_L_121 rfl O28 (by decide) hRc rfl (Nat.le_of_ble_eq_true rfl) (fun v_2 h_2 q_2 => ?_)
  obtain ⟨ev2, z1_2, n2_0, e2⟩ := q_2
  replace O0 := (e2 _ (by decide)).trans O0
  replace O1 := (e2 _ (by decide)).trans O1
  replace O2 := (e2 _ (by decide)).trans O2
  replace O3 := (e2 _ (by decide)).trans O3
  replace O12 := (e2 _ (by decide)).trans O12
  replace O13 := (e2 _ (by decide)).trans O13
  replace O14 := (e2 _ (by decide)).trans O14
  replace O15 := (e2 _ (by decide)).trans O15
  replace O16 := (e2 _ (by decide)).trans O16
  replace O17 := (e2 _ (by decide)).trans O17
  replace O18 := (e2 _ (by decide)).trans O18
  replace O19 := (e2 _ (by decide)).trans O19
  replace O20 := (e2 _ (by decide)).trans O20
  replace O21 := (e2 _ (by decide)).trans O21
  replace O22 := (e2 _ (by decide)).trans O22
  replace O23 := (e2 _ (by decide)).trans O23
  replace O24 := (e2 _ (by decide)).trans O24
  replace O25 := (e2 _ (by decide)).trans O25
  replace O26 := (e2 _ (by decide)).trans O26
  replace O27 := (e2 _ (by decide)).trans O27
  replace O28 := n2_0
  replace hV : ∀ j, j < 8 → h_2 (j + 4) = some (wB (j + 4) (_ )) := fun j hj => (e2 _ (by omega)).trans (hV j hj)
  obtain rfl : v_1 = v_2 := ev1.symm.trans ev2
  refine G_icmp_eq 1755 1013 dL_law_1010 (by decide) rfl (fun _ => ?_) (fun z => absurd rfl z)
  exact kk _ ⟨_, _, _, _, _, _, _, _, _, _, _, _, _, _, _, _, _, _, _, _, _, _, _, _, _, _, _, _, _, _, ⟨O0, O1, O2, O3, hV, O12, O13, O14, O15, O16, O17, O18, O19, O20, O21, O22, O23, O24, O25, O26, O27, O28⟩, ok⟩
