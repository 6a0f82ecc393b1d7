/-! the law's loop -/
theorem and63 (v : Int32) : ∃ n, n < 64 ∧ v &&& 63 = nI n := by
  refine ⟨v.toBitVec.toNat &&& 63, Nat.lt_of_le_of_lt Nat.and_le_right (by decide), ?_⟩
  apply Int32.toBitVec_inj.mp
  show v.toBitVec &&& 63#32 = BitVec.ofNat 32 (v.toBitVec.toNat &&& 63)
  apply BitVec.eq_of_toNat_eq
  rw [BitVec.toNat_and, BitVec.toNat_ofNat, BitVec.toNat_ofNat, Nat.mod_eq_of_lt (show 63 < 2 ^ 32 by decide)]
  exact (Nat.mod_eq_of_lt (Nat.lt_of_le_of_lt Nat.and_le_right (by decide))).symm
theorem gt_le {j L : Nat} (hL : L ≤ 2560) (hj : j ≤ L) (h : ¬ nI L - 5 < nI j) : j + 5 ≤ L := by
  by_cases h5 : 5 ≤ L
  · obtain ⟨q, rfl⟩ : ∃ q, L = q + 5 := ⟨L - 5, by omega⟩
    have e : nI (q + 5) - 5 = nI q := by
      rw [nadd]
      exact Int32.add_sub_cancel _ _
    rw [e] at h
    have := mt (nlt_iff (by omega) (by omega)).mpr h
    omega
  · exfalso
    apply h
    rcases (show L = 0 ∨ L = 1 ∨ L = 2 ∨ L = 3 ∨ L = 4 by omega) with rfl | rfl | rfl | rfl | rfl <;> rcases (show j = 0 ∨ j = 1 ∨ j = 2 ∨ j = 3 ∨ j = 4 by omega) with rfl | rfl | rfl | rfl | rfl <;> decide
set_option maxHeartbeats 4000000 in
set_option maxRecDepth 100000 in
theorem L_step {G : GX} {X : En} {l : Launch} {nc ns : Nat} (hRc : nc ≤ 600000 ∧ ns ≤ 7302250) {b L : Nat} {xs : Nat → Int32} (hL : L ≤ 2560) (lg : LG G X b L xs) (hend : ∀ (i : Int32) (h : Hp), Ag G X l mL_law nc ns 1762 (lwL i) [aI 1] h) {j : Nat} (hj : j ≤ L) {h : Hp} (hI : Inv h) (kn : j + 5 ≤ L → ∀ h', Inv h' → Ag G X l mL_law nc ns 18 (lwL (nI (j + 5))) [] h') : Ag G X l mL_law nc ns 18 (lwL (nI j)) [] h := by
  refine G_iload_n 19 dL_law_18 rfl rfl rfl ?_
  refine G_aload_n 20 dL_law_19 rfl rfl rfl ?_
  refine G_slen 21 lg.1 lg.2.1 lg.2.2.1 lg.2.2.2 dL_law_20 rfl ?_
  refine G_iconst 22 5 dL_law_21 rfl (by decide) ?_
  refine G_isub 23 dL_law_22 rfl ?_
  refine G_icmp_gt 1761 26 dL_law_23 (by decide) rfl (fun _ => ?_) (fun c => ?_)
  · refine G_iconst 1762 1 dL_law_1761 rfl (by decide) ?_
    exact hend _ _
  · have hjL := gt_le hL hj c
    have h0 : vp_in (nI j) L := (ix_nI (by omega) (by omega)).vp
    have h1 : vp_in (nI j + 1) L := by rw [n41]; exact (ix_nI (by omega) (by omega)).vp
    have h2 : vp_in (nI j + 2) L := by rw [n42]; exact (ix_nI (by omega) (by omega)).vp
    have h3 : vp_in (nI j + 3) L := by rw [n43]; exact (ix_nI (by omega) (by omega)).vp
    have h4 : vp_in (nI j + 4) L := by rw [show nI j + 4 = nI (j + 4) from (nadd j 4).symm]; exact (ix_nI (by omega) (by omega)).vp
    have kk : ∀ h', Inv h' → Ag G X l mL_law nc ns 1755 (lwL (nI j)) [] h' := fun h' hI' => by
      refine G_iinc 1758 (ls' := lwL (nI j + 5)) 5 dL_law_1755 rfl rfl (by decide) (by decide) (ast_s (ast_s (ast_1 rfl))) ?_
      refine G_goto 18 dL_law_1758 (by decide) ?_
      rw [show nI j + 5 = nI (j + 5) from (nadd j 5).symm]
      exact kn hjL h' hI'
    refine G_aload_n 27 dL_law_26 rfl rfl rfl ?_
    refine G_iload_n 28 dL_law_27 rfl rfl rfl ?_
    refine G_sld 29 lg.1 lg.2.1 lg.2.2.1 lg.2.2.2 dL_law_28 rfl h0 ?_
    refine G_bipush 31 63 dL_law_29 rfl (by decide) ?_
    refine G_iand 32 dL_law_31 rfl ?_
    obtain ⟨n, hn, e⟩ := and63 (xs (nI j).toNatClampNeg)
    rw [e]
    rcases (show n = 0 ∨ n = 1 ∨ n = 2 ∨ n = 3 ∨ n = 4 ∨ n = 5 ∨ n = 6 ∨ n = 7 ∨ n = 8 ∨ n = 9 ∨ n = 10 ∨ n = 11 ∨ n = 12 ∨ n = 13 ∨ n = 14 ∨ n = 15 ∨ n = 16 ∨ n = 17 ∨ n = 18 ∨ n = 19 ∨ n = 20 ∨ n = 21 ∨ n = 22 ∨ n = 23 ∨ n = 24 ∨ n = 25 ∨ n = 26 ∨ n = 27 ∨ n = 28 ∨ n = 29 ∨ n = 30 ∨ n = 31 ∨ n = 32 ∨ n = 33 ∨ n = 34 ∨ n = 35 ∨ n = 36 ∨ n = 37 ∨ n = 38 ∨ n = 39 ∨ n = 40 ∨ n = 41 ∨ n = 42 ∨ n = 43 ∨ n = 44 ∨ n = 45 ∨ n = 46 ∨ n = 47 ∨ n = 48 ∨ n = 49 ∨ n = 50 ∨ n = 51 ∨ 52 ≤ n by omega) with rfl | rfl | rfl | rfl | rfl | rfl | rfl | rfl | rfl | rfl | rfl | rfl | rfl | rfl | rfl | rfl | rfl | rfl | rfl | rfl | rfl | rfl | rfl | rfl | rfl | rfl | rfl | rfl | rfl | rfl | rfl | rfl | rfl | rfl | rfl | rfl | rfl | rfl | rfl | rfl | rfl | rfl | rfl | rfl | rfl | rfl | rfl | rfl | rfl | rfl | rfl | rfl | hn2
    · exact G_switch 256 dL_law_32 ⟨by decide, by decide⟩ rfl (by decide) (K_feed hRc lg h1 h2 h3 h4 hI kk)
    · exact G_switch 279 dL_law_32 ⟨by decide, by decide⟩ rfl (by decide) (K_mill hRc lg h1 h2 h3 h4 hI kk)
    · exact G_switch 292 dL_law_32 ⟨by decide, by decide⟩ rfl (by decide) (K_lawOf hRc lg h1 h2 h3 h4 hI kk)
    · exact G_switch 325 dL_law_32 ⟨by decide, by decide⟩ rfl (by decide) (K_pockets hRc lg h1 h2 h3 h4 hI kk)
    · exact G_switch 348 dL_law_32 ⟨by decide, by decide⟩ rfl (by decide) (K_law hRc lg h1 h2 h3 h4 hI kk)
    · exact G_switch 391 dL_law_32 ⟨by decide, by decide⟩ rfl (by decide) (K_person hRc lg h1 h2 h3 h4 hI kk)
    · exact G_switch 414 dL_law_32 ⟨by decide, by decide⟩ rfl (by decide) (K_takes hRc lg h1 h2 h3 h4 hI kk)
    · exact G_switch 447 dL_law_32 ⟨by decide, by decide⟩ rfl (by decide) (K_brings hRc lg h1 h2 h3 h4 hI kk)
    · exact G_switch 480 dL_law_32 ⟨by decide, by decide⟩ rfl (by decide) (K_turn hRc lg h1 h2 h3 h4 hI kk)
    · exact G_switch 523 dL_law_32 ⟨by decide, by decide⟩ rfl (by decide) (K_clears hRc lg h1 h2 h3 h4 hI kk)
    · exact G_switch 536 dL_law_32 ⟨by decide, by decide⟩ rfl (by decide) (K_day hRc lg h1 h2 h3 h4 hI kk)
    · exact G_switch 549 dL_law_32 ⟨by decide, by decide⟩ rfl (by decide) (K_back hRc lg h1 h2 h3 h4 hI kk)
    · exact G_switch 562 dL_law_32 ⟨by decide, by decide⟩ rfl (by decide) (K_at hRc lg h1 h2 h3 h4 hI kk)
    · exact G_switch 605 dL_law_32 ⟨by decide, by decide⟩ rfl (by decide) (K_done hRc lg h1 h2 h3 h4 hI kk)
    · exact G_switch 638 dL_law_32 ⟨by decide, by decide⟩ rfl (by decide) (K_when hRc lg h1 h2 h3 h4 hI kk)
    · exact G_switch 671 dL_law_32 ⟨by decide, by decide⟩ rfl (by decide) (K_instead hRc lg h1 h2 h3 h4 hI kk)
    · exact G_switch 714 dL_law_32 ⟨by decide, by decide⟩ rfl (by decide) (K_stopped hRc lg h1 h2 h3 h4 hI kk)
    · exact G_switch 747 dL_law_32 ⟨by decide, by decide⟩ rfl (by decide) (K_allStopped hRc lg h1 h2 h3 h4 hI kk)
    · exact G_switch 780 dL_law_32 ⟨by decide, by decide⟩ rfl (by decide) (K_agrees hRc lg h1 h2 h3 h4 hI kk)
    · exact G_switch 813 dL_law_32 ⟨by decide, by decide⟩ rfl (by decide) (K_bring hRc lg h1 h2 h3 h4 hI kk)
    · exact G_switch 846 dL_law_32 ⟨by decide, by decide⟩ rfl (by decide) (K_empty hRc lg h1 h2 h3 h4 hI kk)
    · exact G_switch 869 dL_law_32 ⟨by decide, by decide⟩ rfl (by decide) (K_had hRc lg h1 h2 h3 h4 hI kk)
    · exact G_switch 892 dL_law_32 ⟨by decide, by decide⟩ rfl (by decide) (K_inIt hRc lg h1 h2 h3 h4 hI kk)
    · exact G_switch 926 dL_law_32 ⟨by decide, by decide⟩ rfl (by decide) (K_feel hRc lg h1 h2 h3 h4 hI kk)
    · exact G_switch 949 dL_law_32 ⟨by decide, by decide⟩ rfl (by decide) (K_which hRc lg h1 h2 h3 h4 hI kk)
    · exact G_switch 992 dL_law_32 ⟨by decide, by decide⟩ rfl (by decide) (K_tray hRc lg h1 h2 h3 h4 hI kk)
    · exact G_switch 1015 dL_law_32 ⟨by decide, by decide⟩ rfl (by decide) (K_onTray hRc lg h1 h2 h3 h4 hI kk)
    · exact G_switch 1038 dL_law_32 ⟨by decide, by decide⟩ rfl (by decide) (K_guard hRc lg h1 h2 h3 h4 hI kk)
    · exact G_switch 1071 dL_law_32 ⟨by decide, by decide⟩ rfl (by decide) (K_rounds hRc lg h1 h2 h3 h4 hI kk)
    · exact G_switch 1084 dL_law_32 ⟨by decide, by decide⟩ rfl (by decide) (K_chance hRc lg h1 h2 h3 h4 hI kk)
    · exact G_switch 1138 dL_law_32 ⟨by decide, by decide⟩ rfl (by decide) (K_idle hRc lg h1 h2 h3 h4 hI kk)
    · exact G_switch 1171 dL_law_32 ⟨by decide, by decide⟩ rfl (by decide) (K_never hRc lg h1 h2 h3 h4 hI kk)
    · exact G_switch 1194 dL_law_32 ⟨by decide, by decide⟩ rfl (by decide) (K_alike hRc lg h1 h2 h3 h4 hI kk)
    · exact G_switch 1217 dL_law_32 ⟨by decide, by decide⟩ rfl (by decide) (K_dropped hRc lg h1 h2 h3 h4 hI kk)
    · exact G_switch 1240 dL_law_32 ⟨by decide, by decide⟩ rfl (by decide) (K_key hRc lg h1 h2 h3 h4 hI kk)
    · exact G_switch 1263 dL_law_32 ⟨by decide, by decide⟩ rfl (by decide) (K_latest hRc lg h1 h2 h3 h4 hI kk)
    · exact G_switch 1296 dL_law_32 ⟨by decide, by decide⟩ rfl (by decide) (K_needed hRc lg h1 h2 h3 h4 hI kk)
    · exact G_switch 1329 dL_law_32 ⟨by decide, by decide⟩ rfl (by decide) (K_trade hRc lg h1 h2 h3 h4 hI kk)
    · exact G_switch 1372 dL_law_32 ⟨by decide, by decide⟩ rfl (by decide) (K_earliest hRc lg h1 h2 h3 h4 hI kk)
    · exact G_switch 1405 dL_law_32 ⟨by decide, by decide⟩ rfl (by decide) (K_safe hRc lg h1 h2 h3 h4 hI kk)
    · exact G_switch 1428 dL_law_32 ⟨by decide, by decide⟩ rfl (by decide) (K_adds hRc lg h1 h2 h3 h4 hI kk)
    · exact G_switch 1472 dL_law_32 ⟨by decide, by decide⟩ rfl (by decide) (K_ways hRc lg h1 h2 h3 h4 hI kk)
    · exact G_switch 1505 dL_law_32 ⟨by decide, by decide⟩ rfl (by decide) (K_behind hRc lg h1 h2 h3 h4 hI kk)
    · exact G_switch 1538 dL_law_32 ⟨by decide, by decide⟩ rfl (by decide) (K_give hRc lg h1 h2 h3 h4 hI kk)
    · exact G_switch 1571 dL_law_32 ⟨by decide, by decide⟩ rfl (by decide) (K_ever hRc lg h1 h2 h3 h4 hI kk)
    · exact G_switch 1604 dL_law_32 ⟨by decide, by decide⟩ rfl (by decide) (K_row hRc lg h1 h2 h3 h4 hI kk)
    · exact G_switch 1627 dL_law_32 ⟨by decide, by decide⟩ rfl (by decide) (K_judge hRc lg h1 h2 h3 h4 hI kk)
    · exact G_switch 1650 dL_law_32 ⟨by decide, by decide⟩ rfl (by decide) (K_clear hRc lg h1 h2 h3 h4 hI kk)
    · exact G_switch 1663 dL_law_32 ⟨by decide, by decide⟩ rfl (by decide) (K_lots hRc lg h1 h2 h3 h4 hI kk)
    · exact G_switch 1706 dL_law_32 ⟨by decide, by decide⟩ rfl (by decide) (K_image hRc lg h1 h2 h3 h4 hI kk)
    · exact G_switch 1719 dL_law_32 ⟨by decide, by decide⟩ rfl (by decide) (K_restore hRc lg h1 h2 h3 h4 hI kk)
    · exact G_switch 1732 dL_law_32 ⟨by decide, by decide⟩ rfl (by decide) (K_count hRc lg h1 h2 h3 h4 hI kk)
    · exact G_switchD 1755 dL_law_32 (Or.inr (by rw [nI_toInt (by omega)]; omega)) (by decide) (kk h hI)
theorem L_loop {G : GX} {X : En} {l : Launch} {nc ns : Nat} (hRc : nc ≤ 600000 ∧ ns ≤ 7302250) {b L : Nat} {xs : Nat → Int32} (hL : L ≤ 2560) (lg : LG G X b L xs) (hend : ∀ (i : Int32) (h : Hp), Ag G X l mL_law nc ns 1762 (lwL i) [aI 1] h) : ∀ (f j : Nat) (h : Hp), L ≤ j + 5 * f → j ≤ L → Inv h → Ag G X l mL_law nc ns 18 (lwL (nI j)) [] h := by
  intro f
  induction f with
  | zero => intro j h hf hj hI; exact L_step hRc hL lg hend hj hI (fun z => absurd z (by omega))
  | succ f ih => intro j h hf hj hI; exact L_step hRc hL lg hend hj hI (fun z h' hI' => ih (j + 5) h' (by omega) z hI')
theorem WOK_00 : WOK x00 := ⟨⟨Nat.zero_le _, fun k _ => ⟨⟨0, by decide, rfl⟩, ⟨0, by decide, rfl⟩, ⟨0, by decide, rfl⟩, ⟨0, by decide, rfl⟩⟩⟩, Nat.zero_le _, fun p _ => ⟨0, by decide, rfl⟩, ⟨0, by decide, rfl⟩, ⟨0, by decide, rfl⟩⟩
set_option maxHeartbeats 4000000 in
set_option maxRecDepth 100000 in
theorem L_start {G : GX} {X : En} {l : Launch} {B : Nat} (hAd : Ad X B) (hsz : G.2.2.1.heap.size = B + 0) (hAO : va_AO RX8 G.2.2.1) {b L : Nat} {xs : Nat → Int32} (hL : L ≤ 2560) (lg : LG G X b L xs) (hend : ∀ (L' : List (Nat × Nat)) (nc ns : Nat), nc ≤ 600000 ∧ ns ≤ 7302250 → ∀ (i : Int32) (h : Hp), Ag G (enL X L') l mL_law nc ns 1762 (lwL i) [aI 1] h) : Ag G (enL X []) l mL_law 0 0 0 [some (aR 100 0), none, none, none] [] (fun _ => none) := by
  refine G_new 3 (o := 0) (L' := [(0, 0)]) [aN, aN, aI 0, aN, aN, aN, aN, aN, aN, aN, aN, aN] tyX9 rfl dL_law_0 rfl (ci := 9) (N := 12) rfl uX9 tyX9_ok cw_L_7 is_X9 ii_X9 (fun j hj => by rcases (show j = 0 ∨ j = 1 ∨ j = 2 ∨ j = 3 ∨ j = 4 ∨ j = 5 ∨ j = 6 ∨ j = 7 ∨ j = 8 ∨ j = 9 ∨ j = 10 ∨ j = 11 by omega) with rfl | rfl | rfl | rfl | rfl | rfl | rfl | rfl | rfl | rfl | rfl | rfl <;> rfl) ⟨Nat.le_of_ble_eq_true rfl, Nat.le_of_ble_eq_true rfl⟩ (adq hAd hsz (by decide) (by decide)) (hAd.mono (by decide)) rfl (fun h1 n1 e1 => ?_)
  have O0 := n1
  refine G_dup 4 dL_law_3 rfl rfl ?_
  refine G_callC 7 (L' := [(0, 0), (1, 0), (1, 1), (1, 2), (2, 0), (2, 1), (2, 2), (3, 0), (3, 1), (4, 0), (4, 1), (4, 2), (5, 0), (5, 1), (5, 2), (6, 0), (6, 1), (6, 2), (7, 0), (7, 1), (7, 2), (8, 0), (8, 1), (8, 2), (9, 0), (9, 1), (9, 2), (10, 0), (10, 1), (10, 2), (11, 0), (11, 1), (11, 2), (12, 0), (12, 1), (13, 0), (13, 1), (13, 2), (14, 0), (14, 1), (14, 2), (15, 0), (15, 1), (0, 1), (16, 0), (16, 1), (16, 2), (17, 0), (17, 1), (18, 0), (18, 1), (18, 2), (19, 0), (20, 0), (20, 1), (20, 2), (21, 0), (22, 0), (22, 1), (22, 2), (23, 0), (23, 1), (23, 2), (24, 0), (24, 1), (24, 2), (25, 0), (26, 0), (26, 1), (26, 2), (27, 0), (27, 1), (27, 2), (25, 1), (25, 2)]) rfl (S_X9_init _ l (hAd.L) O0) hAO dL_law_4 rfl kX9_init lk_L_9 (adn hsz (by decide)) ⟨rfl, rfl⟩ ⟨Nat.le_of_ble_eq_true rfl, Nat.le_of_ble_eq_true rfl⟩ ⟨Nat.le_of_ble_eq_true rfl, Nat.le_of_ble_eq_true rfl⟩ (Nat.le_of_ble_eq_true rfl) rfl (fun h2 q2 => ?_)
  obtain ⟨n2_0, n2_1, n2_2, n2_3, n2_4, n2_5, n2_6, n2_7, n2_8, n2_9, n2_10, n2_11, n2_12, n2_13, n2_14, n2_15, n2_16, n2_17, n2_18, n2_19, n2_20, n2_21, n2_22, n2_23, n2_24, n2_25, n2_26, n2_27, e2⟩ := q2
  replace O0 := n2_0
  have O1 := n2_1
  have O2 := n2_2
  have O3 := n2_3
  have O4 := n2_4
  have O5 := n2_5
  have O6 := n2_6
  have O7 := n2_7
  have O8 := n2_8
  have O9 := n2_9
  have O10 := n2_10
  have O11 := n2_11
  have O12 := n2_12
  have O13 := n2_13
  have O14 := n2_14
  have O15 := n2_15
  have O16 := n2_16
  have O17 := n2_17
  have O18 := n2_18
  have O19 := n2_19
  have O20 := n2_20
  have O21 := n2_21
  have O22 := n2_22
  have O23 := n2_23
  have O24 := n2_24
  have O25 := n2_25
  have O26 := n2_26
  have O27 := n2_27
  refine G_astore_n 8 dL_law_7 rfl rfl (by decide) (ast_1 rfl) ?_
  refine G_new 11 (o := 28) (L' := [(0, 0), (1, 0), (1, 1), (1, 2), (2, 0), (2, 1), (2, 2), (3, 0), (3, 1), (4, 0), (4, 1), (4, 2), (5, 0), (5, 1), (5, 2), (6, 0), (6, 1), (6, 2), (7, 0), (7, 1), (7, 2), (8, 0), (8, 1), (8, 2), (9, 0), (9, 1), (9, 2), (10, 0), (10, 1), (10, 2), (11, 0), (11, 1), (11, 2), (12, 0), (12, 1), (13, 0), (13, 1), (13, 2), (14, 0), (14, 1), (14, 2), (15, 0), (15, 1), (0, 1), (16, 0), (16, 1), (16, 2), (17, 0), (17, 1), (18, 0), (18, 1), (18, 2), (19, 0), (20, 0), (20, 1), (20, 2), (21, 0), (22, 0), (22, 1), (22, 2), (23, 0), (23, 1), (23, 2), (24, 0), (24, 1), (24, 2), (25, 0), (26, 0), (26, 1), (26, 2), (27, 0), (27, 1), (27, 2), (25, 1), (25, 2), (28, 0)]) [aI (nI 0), aN, aN, aN, aN, aI (nI 0), aN, aI 0, aI 0, aI 0, aN, aI 0, aN, aN, aN, aI (nI 0), aI (nI 0), aI 0, aI (nI 0), aN, aN, aN, aN, aN, aI 0, aI (nI 0), aI 0, aN, aN, aN, aI (nI 0), aN, aI (nI 0), aN, aN, aN, aN, aI 0] tyX10 rfl dL_law_8 rfl (ci := 10) (N := 38) rfl uX10 tyX10_ok cw_L_10 is_X10 ii_X10 (fun j hj => by rcases (show j = 0 ∨ j = 1 ∨ j = 2 ∨ j = 3 ∨ j = 4 ∨ j = 5 ∨ j = 6 ∨ j = 7 ∨ j = 8 ∨ j = 9 ∨ j = 10 ∨ j = 11 ∨ j = 12 ∨ j = 13 ∨ j = 14 ∨ j = 15 ∨ j = 16 ∨ j = 17 ∨ j = 18 ∨ j = 19 ∨ j = 20 ∨ j = 21 ∨ j = 22 ∨ j = 23 ∨ j = 24 ∨ j = 25 ∨ j = 26 ∨ j = 27 ∨ j = 28 ∨ j = 29 ∨ j = 30 ∨ j = 31 ∨ j = 32 ∨ j = 33 ∨ j = 34 ∨ j = 35 ∨ j = 36 ∨ j = 37 by omega) with rfl | rfl | rfl | rfl | rfl | rfl | rfl | rfl | rfl | rfl | rfl | rfl | rfl | rfl | rfl | rfl | rfl | rfl | rfl | rfl | rfl | rfl | rfl | rfl | rfl | rfl | rfl | rfl | rfl | rfl | rfl | rfl | rfl | rfl | rfl | rfl | rfl | rfl <;> rfl) ⟨Nat.le_of_ble_eq_true rfl, Nat.le_of_ble_eq_true rfl⟩ (adq hAd hsz (by decide) (by decide)) (hAd.mono (by decide)) rfl (fun h3 n3 e3 => ?_)
  replace O0 := (e3 _ (by decide)).trans O0
  replace O1 := (e3 _ (by decide)).trans O1
  replace O2 := (e3 _ (by decide)).trans O2
  replace O3 := (e3 _ (by decide)).trans O3
  replace O4 := (e3 _ (by decide)).trans O4
  replace O5 := (e3 _ (by decide)).trans O5
  replace O6 := (e3 _ (by decide)).trans O6
  replace O7 := (e3 _ (by decide)).trans O7
  replace O8 := (e3 _ (by decide)).trans O8
  replace O9 := (e3 _ (by decide)).trans O9
  replace O10 := (e3 _ (by decide)).trans O10
  replace O11 := (e3 _ (by decide)).trans O11
  replace O12 := (e3 _ (by decide)).trans O12
  replace O13 := (e3 _ (by decide)).trans O13
  replace O14 := (e3 _ (by decide)).trans O14
  replace O15 := (e3 _ (by decide)).trans O15
  replace O16 := (e3 _ (by decide)).trans O16
  replace O17 := (e3 _ (by decide)).trans O17
  replace O18 := (e3 _ (by decide)).trans O18
  replace O19 := (e3 _ (by decide)).trans O19
  replace O20 := (e3 _ (by decide)).trans O20
  replace O21 := (e3 _ (by decide)).trans O21
  replace O22 := (e3 _ (by decide)).trans O22
  replace O23 := (e3 _ (by decide)).trans O23
  replace O24 := (e3 _ (by decide)).trans O24
  replace O25 := (e3 _ (by decide)).trans O25
  replace O26 := (e3 _ (by decide)).trans O26
  replace O27 := (e3 _ (by decide)).trans O27
  have O28 := n3
  refine G_dup 12 dL_law_11 rfl rfl ?_
  refine G_callC 15 (L' := [(0, 0), (1, 0), (1, 1), (1, 2), (2, 0), (2, 1), (2, 2), (3, 0), (3, 1), (4, 0), (4, 1), (4, 2), (5, 0), (5, 1), (5, 2), (6, 0), (6, 1), (6, 2), (7, 0), (7, 1), (7, 2), (8, 0), (8, 1), (8, 2), (9, 0), (9, 1), (9, 2), (10, 0), (10, 1), (10, 2), (11, 0), (11, 1), (11, 2), (12, 0), (12, 1), (13, 0), (13, 1), (13, 2), (14, 0), (14, 1), (14, 2), (15, 0), (15, 1), (0, 1), (16, 0), (16, 1), (16, 2), (17, 0), (17, 1), (18, 0), (18, 1), (18, 2), (19, 0), (20, 0), (20, 1), (20, 2), (21, 0), (22, 0), (22, 1), (22, 2), (23, 0), (23, 1), (23, 2), (24, 0), (24, 1), (24, 2), (25, 0), (26, 0), (26, 1), (26, 2), (27, 0), (27, 1), (27, 2), (25, 1), (25, 2), (28, 0), (28, 1), (28, 2), (28, 3), (28, 4), (28, 5), (28, 6), (28, 7), (28, 8), (28, 9), (28, 10), (28, 11), (28, 12), (28, 13), (28, 14), (28, 15), (28, 16), (28, 17), (28, 18), (28, 19), (28, 20), (28, 21)]) rfl (S_X10_init _ l (hAd.L) O28) hAO dL_law_12 rfl kX10_init lk_L_12 (adn hsz (by decide)) ⟨rfl, rfl⟩ ⟨Nat.le_of_ble_eq_true rfl, Nat.le_of_ble_eq_true rfl⟩ ⟨Nat.le_of_ble_eq_true rfl, Nat.le_of_ble_eq_true rfl⟩ (Nat.le_of_ble_eq_true rfl) rfl (fun h4 q4 => ?_)
  obtain ⟨n4_0, e4⟩ := q4
  replace O0 := (e4 _ (by decide)).trans O0
  replace O1 := (e4 _ (by decide)).trans O1
  replace O2 := (e4 _ (by decide)).trans O2
  replace O3 := (e4 _ (by decide)).trans O3
  replace O4 := (e4 _ (by decide)).trans O4
  replace O5 := (e4 _ (by decide)).trans O5
  replace O6 := (e4 _ (by decide)).trans O6
  replace O7 := (e4 _ (by decide)).trans O7
  replace O8 := (e4 _ (by decide)).trans O8
  replace O9 := (e4 _ (by decide)).trans O9
  replace O10 := (e4 _ (by decide)).trans O10
  replace O11 := (e4 _ (by decide)).trans O11
  replace O12 := (e4 _ (by decide)).trans O12
  replace O13 := (e4 _ (by decide)).trans O13
  replace O14 := (e4 _ (by decide)).trans O14
  replace O15 := (e4 _ (by decide)).trans O15
  replace O16 := (e4 _ (by decide)).trans O16
  replace O17 := (e4 _ (by decide)).trans O17
  replace O18 := (e4 _ (by decide)).trans O18
  replace O19 := (e4 _ (by decide)).trans O19
  replace O20 := (e4 _ (by decide)).trans O20
  replace O21 := (e4 _ (by decide)).trans O21
  replace O22 := (e4 _ (by decide)).trans O22
  replace O23 := (e4 _ (by decide)).trans O23
  replace O24 := (e4 _ (by decide)).trans O24
  replace O25 := (e4 _ (by decide)).trans O25
  replace O26 := (e4 _ (by decide)).trans O26
  replace O27 := (e4 _ (by decide)).trans O27
  replace O28 := n4_0
  refine G_astore_n 16 dL_law_15 rfl rfl (by decide) (ast_s (ast_1 rfl)) ?_
  refine G_iconst 17 (nI 0) dL_law_16 rfl (by decide) ?_
  refine G_istore_n 18 dL_law_17 rfl rfl (by decide) (ast_s (ast_s (ast_1 rfl))) ?_
  refine L_loop (X := enL X [(0, 0), (1, 0), (1, 1), (1, 2), (2, 0), (2, 1), (2, 2), (3, 0), (3, 1), (4, 0), (4, 1), (4, 2), (5, 0), (5, 1), (5, 2), (6, 0), (6, 1), (6, 2), (7, 0), (7, 1), (7, 2), (8, 0), (8, 1), (8, 2), (9, 0), (9, 1), (9, 2), (10, 0), (10, 1), (10, 2), (11, 0), (11, 1), (11, 2), (12, 0), (12, 1), (13, 0), (13, 1), (13, 2), (14, 0), (14, 1), (14, 2), (15, 0), (15, 1), (0, 1), (16, 0), (16, 1), (16, 2), (17, 0), (17, 1), (18, 0), (18, 1), (18, 2), (19, 0), (20, 0), (20, 1), (20, 2), (21, 0), (22, 0), (22, 1), (22, 2), (23, 0), (23, 1), (23, 2), (24, 0), (24, 1), (24, 2), (25, 0), (26, 0), (26, 1), (26, 2), (27, 0), (27, 1), (27, 2), (25, 1), (25, 2), (28, 0), (28, 1), (28, 2), (28, 3), (28, 4), (28, 5), (28, 6), (28, 7), (28, 8), (28, 9), (28, 10), (28, 11), (28, 12), (28, 13), (28, 14), (28, 15), (28, 16), (28, 17), (28, 18), (28, 19), (28, 20), (28, 21)]) (nc := 97) (ns := 3566) ⟨Nat.le_of_ble_eq_true rfl, Nat.le_of_ble_eq_true rfl⟩ hL lg (hend [(0, 0), (1, 0), (1, 1), (1, 2), (2, 0), (2, 1), (2, 2), (3, 0), (3, 1), (4, 0), (4, 1), (4, 2), (5, 0), (5, 1), (5, 2), (6, 0), (6, 1), (6, 2), (7, 0), (7, 1), (7, 2), (8, 0), (8, 1), (8, 2), (9, 0), (9, 1), (9, 2), (10, 0), (10, 1), (10, 2), (11, 0), (11, 1), (11, 2), (12, 0), (12, 1), (13, 0), (13, 1), (13, 2), (14, 0), (14, 1), (14, 2), (15, 0), (15, 1), (0, 1), (16, 0), (16, 1), (16, 2), (17, 0), (17, 1), (18, 0), (18, 1), (18, 2), (19, 0), (20, 0), (20, 1), (20, 2), (21, 0), (22, 0), (22, 1), (22, 2), (23, 0), (23, 1), (23, 2), (24, 0), (24, 1), (24, 2), (25, 0), (26, 0), (26, 1), (26, 2), (27, 0), (27, 1), (27, 2), (25, 1), (25, 2), (28, 0), (28, 1), (28, 2), (28, 3), (28, 4), (28, 5), (28, 6), (28, 7), (28, 8), (28, 9), (28, 10), (28, 11), (28, 12), (28, 13), (28, 14), (28, 15), (28, 16), (28, 17), (28, 18), (28, 19), (28, 20), (28, 21)] 97 3566 ⟨Nat.le_of_ble_eq_true rfl, Nat.le_of_ble_eq_true rfl⟩) L 0 _ (by omega) (Nat.zero_le _) ?_
  have hV : ∀ j, j < 8 → h4 (j + 4) = some (wB (j + 4) ((fun _ : Nat => x00) j)) := fun j hj => by
    rcases (show j = 0 ∨ j = 1 ∨ j = 2 ∨ j = 3 ∨ j = 4 ∨ j = 5 ∨ j = 6 ∨ j = 7 by omega) with rfl | rfl | rfl | rfl | rfl | rfl | rfl | rfl
    · exact O4
    · exact O5
    · exact O6
    · exact O7
    · exact O8
    · exact O9
    · exact O10
    · exact O11
  exact ⟨x00, 0, (fun _ => 0), x00, 0, 0, (fun _ => x00), (fun _ => 0), 0, 0, (fun _ => 0), 0, (fun _ => 0), (fun _ => 0), z00, (fun _ => x00), x00, y00, y00, (fun _ => 0), 0, y00, y00, y00, y00, x00, (fun _ => 0), (fun _ => 0), y00, x00, ⟨O0, O1, O2, O3, hV, O12, O13, O14, O15, O16, O17, O18, O19, O20, O21, O22, O23, O24, O25, O26, O27, O28⟩, WOK_00, WOK_00, fun _ _ => WOK_00, by decide, Nat.zero_le _, Nat.zero_le _, Nat.zero_le _, fun k hk => absurd hk (Nat.not_lt_zero k), fun q => absurd rfl q, fun j hj => absurd hj (Nat.not_lt_zero j), fun j hj => absurd hj (Nat.not_lt_zero j)⟩
