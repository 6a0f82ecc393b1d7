set_option maxHeartbeats 4000000 in
set_option maxRecDepth 100000 in
theorem S_X9_refuse (X : En) (l : Launch) {h : Hp} {g : Int32} {r : FI} (O0 : h 0 = some (maB g r)) {v : Int32} (hv : CD v) : Ct X l mX9_refuse [aR 0 0, aI v] h (QI (PI1 (v) h (0) (maB g (rS v r)))) := by
  have hi := hv.ix
  have hf : ∀ i, i ≠ 0 → h i = h i := fun _ _ => rfl
  refine Ct.intro [some (aR 0 0), some (aI v)] (by decide +kernel) rfl (Nat.le_of_ble_eq_true rfl) ?_
  refine A_aload_n 1 dX9_refuse_0 rfl rfl rfl ?_
  refine A_getfield 4 dX9_refuse_1 rfl f_X9_40 O0 rfl ?_
  refine A_iload_n 5 dX9_refuse_4 rfl rfl rfl ?_
  refine A_ineg 6 dX9_refuse_5 rfl ?_
  refine A_aload_n 7 dX9_refuse_6 rfl rfl rfl ?_
  refine A_getfield 10 dX9_refuse_7 rfl f_X9_40 O0 rfl ?_
  refine A_iload_n 11 dX9_refuse_10 rfl rfl rfl ?_
  refine A_ineg 12 dX9_refuse_11 rfl ?_
  refine A_callSI 15 (S_X9_cell_X9_0 X l (by first | assumption | decide | omega | exact Ne.symm (by assumption)) (by first | assumption | exact ix_nI (by omega) (by decide) | exact ix_lit _ rfl (by omega) (by decide) | exact ix_lit _ rfl (by decide) (by decide))) dX9_refuse_12 rfl kX9_cell lk_X9_366 rfl (by decide) rfl (Nat.le_of_ble_eq_true rfl) (fun v_1 h_1 qh_1 => ?_)
  obtain ⟨rfl, rfl⟩ := qh_1
  refine A_iconst 16 (1) dX9_refuse_15 rfl (by decide) ?_
  refine A_iadd 17 dX9_refuse_16 rfl ?_
  refine A_callSV 20 (S_X9_put_X9_0 X l (by first | assumption | decide | omega | exact Ne.symm (by assumption)) (by first | assumption | exact ix_nI (by omega) (by decide) | exact ix_lit _ rfl (by omega) (by decide) | exact ix_lit _ rfl (by decide) (by decide))) dX9_refuse_17 rfl kX9_put lk_X9_370 rfl (by decide) rfl (Nat.le_of_ble_eq_true rfl) (fun h_2 qh_2 => ?_)
  obtain ⟨n0h_2, eh_2⟩ := qh_2
  replace O0 := n0h_2
  replace hf : ∀ i, i ≠ 0 → h_2 i = h i := fun i g0 => (eh_2 i g0).trans (hf i g0)
  refine A_iload_n 21 dX9_refuse_20 rfl rfl rfl ?_
  refine A_iret dX9_refuse_21 rfl ⟨_, rfl, (by first | with_reducible rfl | (simp only [if_true, if_false, ite_true, ite_false, and_true, true_and, and_false, false_and, and_self, or_true, true_or, or_false, false_or, or_self, not_true_eq_false, not_false_eq_true, decide_true, decide_false, Bool.and_true, Bool.true_and, Bool.and_false, Bool.false_and, Bool.and_self, Bool.or_true, Bool.true_or, Bool.or_false, Bool.false_or, Bool.not_true, Bool.not_false, cond_true, cond_false, bI_t, bI_f, Bool.false_eq_true, Bool.true_eq_false, dayC_1, dayC_21, dayC_221, dayC_222]; done) | (simp only [*]; done) | (simp [bI, *]; done) | with_reducible_and_instances rfl), (by unfold rS; rw [if_neg hv.ne]; exact O0), hf⟩
set_option maxHeartbeats 4000000 in
set_option maxRecDepth 100000 in
theorem S_X9_refuseLong (X : En) (l : Launch) {h : Hp} {g : Int32} {r : FI} (O0 : h 0 = some (maB g r)) {v : Int32} (hv : CD v) : Ct X l mX9_refuseLong [aR 0 0, aI v] h (QL (PL1 (4000000000000000000 - v.toInt64) h (0) (maB g (rS v r)))) := by
  have hf : ∀ i, i ≠ 0 → h i = h i := fun _ _ => rfl
  refine Ct.intro [some (aR 0 0), some (aI v)] (by decide +kernel) rfl (Nat.le_of_ble_eq_true rfl) ?_
  refine A_ldc2_w 3 _ dX9_refuseLong_0 rfl cn_X9_373 ?_
  refine A_aload_n 4 dX9_refuseLong_3 rfl rfl rfl ?_
  refine A_iload_n 5 dX9_refuseLong_4 rfl rfl rfl ?_
  refine A_callVI 8 (S_X9_refuse X l (by first | assumption | decide | omega | exact Ne.symm (by assumption)) (by first | assumption | (unfold CD; decide))) dX9_refuseLong_5 rfl kX9_refuse lk_X9_79 rfl O0 (by decide) rfl (Nat.le_of_ble_eq_true rfl) (fun v_1 h_1 qh_1 => ?_)
  obtain ⟨rfl, n0h_1, eh_1⟩ := qh_1
  replace O0 := n0h_1
  replace hf : ∀ i, i ≠ 0 → h_1 i = h i := fun i g0 => (eh_1 i g0).trans (hf i g0)
  refine A_i2l 9 dX9_refuseLong_8 rfl ?_
  refine A_lsub 10 dX9_refuseLong_9 rfl ?_
  refine A_lret dX9_refuseLong_10 rfl ⟨_, rfl, (by first | with_reducible rfl | (simp only [if_true, if_false, ite_true, ite_false, and_true, true_and, and_false, false_and, and_self, or_true, true_or, or_false, false_or, or_self, not_true_eq_false, not_false_eq_true, decide_true, decide_false, Bool.and_true, Bool.true_and, Bool.and_false, Bool.false_and, Bool.and_self, Bool.or_true, Bool.true_or, Bool.or_false, Bool.false_or, Bool.not_true, Bool.not_false, cond_true, cond_false, bI_t, bI_f, Bool.false_eq_true, Bool.true_eq_false, dayC_1, dayC_21, dayC_221, dayC_222]; done) | (simp only [*]; done) | (simp [bI, *]; done) | with_reducible_and_instances rfl), O0, hf⟩
set_option maxHeartbeats 4000000 in
set_option maxRecDepth 100000 in
theorem S_X9_goThrough (X : En) (l : Launch) {h : Hp} {x : PW} {g : Int32} {r : FI} (O0 : h 0 = some (maB g r)) (O1 : h 1 = some (wB 1 x)) {y16 : PC} (O16 : h 16 = some (cB 16 y16)) (hx : LOK x) {p : Nat} (hp : p < 6) : Ct X l mX9_goThrough [aR 0 0, aI (nI p)] h (QV (PV1 h (16) (cB 16 (dayC x 0 (x.2.1 p))))) := by
  have hf : ∀ i, i ≠ 16 → h i = h i := fun _ _ => rfl
  refine Ct.intro [some (aR 0 0), some (aI (nI p))] (by decide +kernel) rfl (Nat.le_of_ble_eq_true rfl) ?_
  refine A_aload_n 1 dX9_goThrough_0 rfl rfl rfl ?_
  refine A_getfield 4 dX9_goThrough_1 rfl f_X9_47 O0 rfl ?_
  refine A_aload_n 5 dX9_goThrough_4 rfl rfl rfl ?_
  refine A_getfield 8 dX9_goThrough_5 rfl f_X9_10 O0 rfl ?_
  refine A_aload_n 9 dX9_goThrough_8 rfl rfl rfl ?_
  refine A_getfield 12 dX9_goThrough_9 rfl f_X9_10 O0 rfl ?_
  refine A_iload_n 13 dX9_goThrough_12 rfl rfl rfl ?_
  refine A_callVI 16 (S_X8_pocketsOf X l (by first | assumption | decide | omega | exact Ne.symm (by assumption)) (by first | assumption | decide | omega | exact Ne.symm (by assumption))) dX9_goThrough_13 rfl kX8_pocketsOf lk_X9_122 rfl O1 (by decide) rfl (Nat.le_of_ble_eq_true rfl) (fun v_1 h_1 qh_1 => ?_)
  obtain ⟨rfl, rfl⟩ := qh_1
  refine A_iconst 17 (0) dX9_goThrough_16 rfl (by decide) ?_
  refine A_callVI 20 (S_X1_run X l (by first | assumption | decide | omega | exact Ne.symm (by assumption)) (by first | assumption | decide | omega | exact Ne.symm (by assumption)) (by first | assumption | decide | omega | exact Ne.symm (by assumption)) (by first | assumption | decide | omega | exact Ne.symm (by assumption))) dX9_goThrough_17 rfl kX1_run lk_X9_201 rfl O16 (by decide) rfl (Nat.le_of_ble_eq_true rfl) (fun v_2 h_2 qh_2 => ?_)
  obtain ⟨rfl, n0h_2, eh_2⟩ := qh_2
  replace O0 := (eh_2 _ (by decide)).trans O0
  replace O1 := (eh_2 _ (by decide)).trans O1
  replace O16 := n0h_2
  replace hf : ∀ i, i ≠ 16 → h_2 i = h i := fun i g0 => (eh_2 i g0).trans (hf i g0)
  refine A_pop 21 dX9_goThrough_20 rfl rfl ?_
  refine A_vret dX9_goThrough_21 rfl ⟨rfl, O16, hf⟩
set_option maxHeartbeats 4000000 in
set_option maxRecDepth 100000 in
theorem S_X9_pockets (X : En) (l : Launch) {h : Hp} {x : PW} {g : Int32} {r : FI} (O0 : h 0 = some (maB g r)) (O1 : h 1 = some (wB 1 x)) (hW : WOK x)  {p : Int32} : Ct X l mX9_pockets [aR 0 0, aI p] h (QI (PI1 (rV (wP x p) (pk x p)) h (0) (maB g (rS (wP x p) r)))) := by
  have hx := hW.1
  have hp := hW.2.1
  have h10 := hx.1
  have hf : ∀ i, i ≠ 0 → h i = h i := fun _ _ => rfl
  refine Ct.intro [some (aR 0 0), some (aI p)] (by decide +kernel) rfl (Nat.le_of_ble_eq_true rfl) ?_
  refine A_aload_n 1 dX9_pockets_0 rfl rfl rfl ?_
  refine A_getfield 4 dX9_pockets_1 rfl f_X9_10 O0 rfl ?_
  refine A_iload_n 5 dX9_pockets_4 rfl rfl rfl ?_
  refine A_callVI 8 (S_X8_isPerson X l (by first | assumption | decide | omega | exact Ne.symm (by assumption))) dX9_pockets_5 rfl kX8_isPerson lk_X9_119 rfl O1 (by decide) rfl (Nat.le_of_ble_eq_true rfl) (fun v_1 h_1 qh_1 => ?_)
  obtain ⟨rfl, rfl⟩ := qh_1
  refine A_if_ne 17 11 dX9_pockets_8 (by decide) rfl (fun c8 => ?_) (fun c8 => ?_)
  · skip
    try simp only [bI_0, bI_n0, Classical.not_not, Bool.not_eq_false, Bool.true_and, Bool.and_true, decide_eq_true_eq, decide_eq_false_iff_not, dayC_1, dayC_21, dayC_221, dayC_222] at c8
    obtain ⟨k_p, rfl, hk_p⟩ := inN_ex c8 (by omega)
    have cl_p : (nI k_p).toNatClampNeg = k_p := nI_clamp (by omega)
    refine A_aload_n 18 dX9_pockets_17 rfl rfl rfl ?_
    refine A_getfield 21 dX9_pockets_18 rfl f_X9_10 O0 rfl ?_
    refine A_iload_n 22 dX9_pockets_21 rfl rfl rfl ?_
    refine A_callVI 25 (S_X8_pocketsOf X l (by first | assumption | decide | omega | exact Ne.symm (by assumption)) (by first | assumption | decide | omega | exact Ne.symm (by assumption))) dX9_pockets_22 rfl kX8_pocketsOf lk_X9_122 rfl O1 (by decide) rfl (Nat.le_of_ble_eq_true rfl) (fun v_2 h_2 qh_2 => ?_)
    obtain ⟨rfl, rfl⟩ := qh_2
    have ew : wP x (nI k_p) = 0 := by
      first | (simp only [c8, cl_p, if_true, if_false, ite_true, ite_false, and_true, true_and, and_false, false_and, and_self, or_true, true_or, or_false, false_or, or_self, not_true_eq_false, not_false_eq_true, decide_true, decide_false, Bool.and_true, Bool.true_and, Bool.and_false, Bool.false_and, Bool.and_self, Bool.or_true, Bool.true_or, Bool.or_false, Bool.false_or, Bool.not_true, Bool.not_false, cond_true, cond_false, bI_t, bI_f, Bool.false_eq_true, Bool.true_eq_false, dayC_1, dayC_21, dayC_221, dayC_222, w01, wP, wPL, wP01, wL01, wRow, w01R, wAB, wNum, isP, isL]; done)
    refine A_iret dX9_pockets_25 rfl ⟨_, rfl, (by rw [ew, rV_0]; first | (simp only [c8, cl_p, if_true, if_false, ite_true, ite_false, and_true, true_and, and_false, false_and, and_self, or_true, true_or, or_false, false_or, or_self, not_true_eq_false, not_false_eq_true, decide_true, decide_false, Bool.and_true, Bool.true_and, Bool.and_false, Bool.false_and, Bool.and_self, Bool.or_true, Bool.true_or, Bool.or_false, Bool.false_or, Bool.not_true, Bool.not_false, cond_true, cond_false, bI_t, bI_f, Bool.false_eq_true, Bool.true_eq_false, dayC_1, dayC_21, dayC_221, dayC_222, pk]; done) | (simp [pk, *]; done)), (by rw [ew]; first | (rw [rS_0]; exact O0) | exact O0), hf⟩
  · skip
    try simp only [bI_0, bI_n0, Classical.not_not, Bool.not_eq_false, Bool.true_and, Bool.and_true, decide_eq_true_eq, decide_eq_false_iff_not, dayC_1, dayC_21, dayC_221, dayC_222] at c8
    refine A_aload_n 12 dX9_pockets_11 rfl rfl rfl ?_
    refine A_iconst 13 (-1) dX9_pockets_12 rfl (by decide) ?_
    refine A_callVI 16 (S_X9_refuse X l (by first | assumption | decide | omega | exact Ne.symm (by assumption)) (by first | assumption | (unfold CD; decide))) dX9_pockets_13 rfl kX9_refuse lk_X9_79 rfl O0 (by decide) rfl (Nat.le_of_ble_eq_true rfl) (fun v_3 h_3 qh_3 => ?_)
    obtain ⟨rfl, n0h_3, eh_3⟩ := qh_3
    replace O0 := n0h_3
    replace O1 := (eh_3 _ (by decide)).trans O1
    replace hf : ∀ i, i ≠ 0 → h_3 i = h i := fun i g0 => (eh_3 i g0).trans (hf i g0)
    have ew : wP x p = -1 := by
      first | (simp only [c8, if_true, if_false, ite_true, ite_false, and_true, true_and, and_false, false_and, and_self, or_true, true_or, or_false, false_or, or_self, not_true_eq_false, not_false_eq_true, decide_true, decide_false, Bool.and_true, Bool.true_and, Bool.and_false, Bool.false_and, Bool.and_self, Bool.or_true, Bool.true_or, Bool.or_false, Bool.false_or, Bool.not_true, Bool.not_false, cond_true, cond_false, bI_t, bI_f, Bool.false_eq_true, Bool.true_eq_false, dayC_1, dayC_21, dayC_221, dayC_222, w01, wP, wPL, wP01, wL01, wRow, w01R, wAB, wNum, isP, isL]; done)
    refine A_iret dX9_pockets_16 rfl ⟨_, rfl, (by rw [ew]; exact rV_n (by decide)), (by rw [ew]; first | (rw [rS_0]; exact O0) | exact O0), hf⟩
set_option maxHeartbeats 4000000 in
set_option maxRecDepth 100000 in
theorem S_X9_at (X : En) (l : Launch) {h : Hp} {x : PW} {g : Int32} {r : FI} (O0 : h 0 = some (maB g r)) (O1 : h 1 = some (wB 1 x)) (hW : WOK x)  {y16 : PC} (O16 : h 16 = some (cB 16 y16)) {p hr v : Int32} : Ct X l mX9_at [aR 0 0, aI p, aI hr, aI v] h (QI (fun vr h2 => (rV (wAt x p hr v) (aAt x p hr v)) = vr ∧ ∃ (z16 : PC), h2 (0) = some (maB g (rS (wAt x p hr v) r)) ∧ h2 (16) = some (cB 16 z16) ∧ ∀ i, i ≠ 0 → i ≠ 16 → h2 i = h i)) := by
  have hx := hW.1
  have hp := hW.2.1
  have h10 := hx.1
  have hf : ∀ i, i ≠ 0 → i ≠ 16 → h i = h i := fun _ _ _ => rfl
  refine Ct.intro [some (aR 0 0), some (aI p), some (aI hr), some (aI v)] (by decide +kernel) rfl (Nat.le_of_ble_eq_true rfl) ?_
  refine A_aload_n 1 dX9_at_0 rfl rfl rfl ?_
  refine A_getfield 4 dX9_at_1 rfl f_X9_10 O0 rfl ?_
  refine A_iload_n 5 dX9_at_4 rfl rfl rfl ?_
  refine A_callVI 8 (S_X8_isPerson X l (by first | assumption | decide | omega | exact Ne.symm (by assumption))) dX9_at_5 rfl kX8_isPerson lk_X9_119 rfl O1 (by decide) rfl (Nat.le_of_ble_eq_true rfl) (fun v_1 h_1 qh_1 => ?_)
  obtain ⟨rfl, rfl⟩ := qh_1
  refine A_if_eq 21 11 dX9_at_8 (by decide) rfl (fun c8 => ?_) (fun c8 => ?_)
  · skip
    try simp only [bI_0, bI_n0, Classical.not_not, Bool.not_eq_false, Bool.true_and, Bool.and_true, decide_eq_true_eq, decide_eq_false_iff_not, dayC_1, dayC_21, dayC_221, dayC_222] at c8
    refine A_aload_n 22 dX9_at_21 rfl rfl rfl ?_
    refine A_iconst 23 (-1) dX9_at_22 rfl (by decide) ?_
    refine A_callVI 26 (S_X9_refuse X l (by first | assumption | decide | omega | exact Ne.symm (by assumption)) (by first | assumption | (unfold CD; decide))) dX9_at_23 rfl kX9_refuse lk_X9_79 rfl O0 (by decide) rfl (Nat.le_of_ble_eq_true rfl) (fun v_2 h_2 qh_2 => ?_)
    obtain ⟨rfl, n0h_2, eh_2⟩ := qh_2
    replace O0 := n0h_2
    replace O1 := (eh_2 _ (by decide)).trans O1
    replace O16 := (eh_2 _ (by decide)).trans O16
    replace hf : ∀ i, i ≠ 0 → i ≠ 16 → h_2 i = h i := fun i g0 g1 => (eh_2 i g0).trans (hf i g0 g1)
    have ew : wAt x p hr v = -1 := by
      first | (simp only [c8, if_true, if_false, ite_true, ite_false, and_true, true_and, and_false, false_and, and_self, or_true, true_or, or_false, false_or, or_self, not_true_eq_false, not_false_eq_true, decide_true, decide_false, Bool.and_true, Bool.true_and, Bool.and_false, Bool.false_and, Bool.and_self, Bool.or_true, Bool.true_or, Bool.or_false, Bool.false_or, Bool.not_true, Bool.not_false, cond_true, cond_false, bI_t, bI_f, Bool.false_eq_true, Bool.true_eq_false, dayC_1, dayC_21, dayC_221, dayC_222, wAt, w01, wP, wPL, wP01, wL01, wRow, w01R, wAB, wNum, isP, isL]; done)
    refine A_iret dX9_at_26 rfl ⟨_, rfl, (by rw [ew]; exact rV_n (by decide)), _, (by rw [ew]; first | (rw [rS_0]; exact O0) | exact O0), O16, hf⟩
  · skip
    try simp only [bI_0, bI_n0, Classical.not_not, Bool.not_eq_false, Bool.true_and, Bool.and_true, decide_eq_true_eq, decide_eq_false_iff_not, dayC_1, dayC_21, dayC_221, dayC_222] at c8
    obtain ⟨k_p, rfl, hk_p⟩ := inN_ex c8 (by omega)
    have cl_p : (nI k_p).toNatClampNeg = k_p := nI_clamp (by omega)
    refine A_iload_n 12 dX9_at_11 rfl rfl rfl ?_
    refine A_if_lt 21 15 dX9_at_12 (by decide) rfl (fun c12 => ?_) (fun c12 => ?_)
    · skip
      try simp only [bI_0, bI_n0, Classical.not_not, Bool.not_eq_false, Bool.true_and, Bool.and_true, decide_eq_true_eq, decide_eq_false_iff_not, dayC_1, dayC_21, dayC_221, dayC_222] at c12
      have n12 := Int32.not_le.mpr c12
      refine A_aload_n 22 dX9_at_21 rfl rfl rfl ?_
      refine A_iconst 23 (-1) dX9_at_22 rfl (by decide) ?_
      refine A_callVI 26 (S_X9_refuse X l (by first | assumption | decide | omega | exact Ne.symm (by assumption)) (by first | assumption | (unfold CD; decide))) dX9_at_23 rfl kX9_refuse lk_X9_79 rfl O0 (by decide) rfl (Nat.le_of_ble_eq_true rfl) (fun v_3 h_3 qh_3 => ?_)
      obtain ⟨rfl, n0h_3, eh_3⟩ := qh_3
      replace O0 := n0h_3
      replace O1 := (eh_3 _ (by decide)).trans O1
      replace O16 := (eh_3 _ (by decide)).trans O16
      replace hf : ∀ i, i ≠ 0 → i ≠ 16 → h_3 i = h i := fun i g0 g1 => (eh_3 i g0).trans (hf i g0 g1)
      have ew : wAt x (nI k_p) hr v = -1 := by
        first | (simp only [c8, cl_p, c12, n12, if_true, if_false, ite_true, ite_false, and_true, true_and, and_false, false_and, and_self, or_true, true_or, or_false, false_or, or_self, not_true_eq_false, not_false_eq_true, decide_true, decide_false, Bool.and_true, Bool.true_and, Bool.and_false, Bool.false_and, Bool.and_self, Bool.or_true, Bool.true_or, Bool.or_false, Bool.false_or, Bool.not_true, Bool.not_false, cond_true, cond_false, bI_t, bI_f, Bool.false_eq_true, Bool.true_eq_false, dayC_1, dayC_21, dayC_221, dayC_222, wAt, w01, wP, wPL, wP01, wL01, wRow, w01R, wAB, wNum, isP, isL]; done)
      refine A_iret dX9_at_26 rfl ⟨_, rfl, (by rw [ew]; exact rV_n (by decide)), _, (by rw [ew]; first | (rw [rS_0]; exact O0) | exact O0), O16, hf⟩
    · skip
      try simp only [bI_0, bI_n0, Classical.not_not, Bool.not_eq_false, Bool.true_and, Bool.and_true, decide_eq_true_eq, decide_eq_false_iff_not, dayC_1, dayC_21, dayC_221, dayC_222] at c12
      have n12 := Int32.not_lt.mp c12
      refine A_iload_n 16 dX9_at_15 rfl rfl rfl ?_
      refine A_bipush 18 (12) dX9_at_16 rfl (by decide) ?_
      refine A_icmp_lt 27 21 dX9_at_18 (by decide) rfl (fun c18 => ?_) (fun c18 => ?_)
      · skip
        try simp only [bI_0, bI_n0, Classical.not_not, Bool.not_eq_false, Bool.true_and, Bool.and_true, decide_eq_true_eq, decide_eq_false_iff_not, dayC_1, dayC_21, dayC_221, dayC_222] at c18
        have n18 := Int32.not_le.mpr c18
        obtain ⟨k_hr, rfl, hk_hr⟩ := nI_exi (n := 12) c12 c18 (by decide)
        have cl_hr : (nI k_hr).toNatClampNeg = k_hr := nI_clamp (by omega)
        refine A_iload_n 28 dX9_at_27 rfl rfl rfl ?_
        refine A_callSI 31 (S_X9_isNot0or1 X l) dX9_at_28 rfl kX9_isNot0or1 lk_X9_174 rfl (by decide) rfl (Nat.le_of_ble_eq_true rfl) (fun v_4 h_4 qh_4 => ?_)
        obtain ⟨rfl, rfl⟩ := qh_4
        refine A_if_eq 41 34 dX9_at_31 (by decide) rfl (fun c31 => ?_) (fun c31 => ?_)
        · skip
          try simp only [bI_0, bI_n0, Classical.not_not, Bool.not_eq_false, Bool.true_and, Bool.and_true, decide_eq_true_eq, decide_eq_false_iff_not, dayC_1, dayC_21, dayC_221, dayC_222] at c31
          refine A_aload_n 42 dX9_at_41 rfl rfl rfl ?_
          refine A_iload_n 43 dX9_at_42 rfl rfl rfl ?_
          refine A_callVV 46 (S_X9_goThrough X l (by first | assumption | decide | omega | exact Ne.symm (by assumption)) (by first | assumption | decide | omega | exact Ne.symm (by assumption)) (by first | assumption | decide | omega | exact Ne.symm (by assumption)) (by first | assumption | decide | omega | exact Ne.symm (by assumption)) (by first | assumption | decide | omega | exact Ne.symm (by assumption))) dX9_at_43 rfl kX9_goThrough lk_X9_177 rfl O0 (by decide) rfl (Nat.le_of_ble_eq_true rfl) (fun h_5 qh_5 => ?_)
          obtain ⟨n0h_5, eh_5⟩ := qh_5
          replace O0 := (eh_5 _ (by decide)).trans O0
          replace O1 := (eh_5 _ (by decide)).trans O1
          replace O16 := n0h_5
          replace hf : ∀ i, i ≠ 0 → i ≠ 16 → h_5 i = h i := fun i g0 g1 => (eh_5 i g1).trans (hf i g0 g1)
          refine A_iload_n 47 dX9_at_46 rfl rfl rfl ?_
          refine A_if_ne 61 50 dX9_at_47 (by decide) rfl (fun c47 => ?_) (fun c47 => ?_)
          · skip
            try simp only [bI_0, bI_n0, Classical.not_not, Bool.not_eq_false, Bool.true_and, Bool.and_true, decide_eq_true_eq, decide_eq_false_iff_not, dayC_1, dayC_21, dayC_221, dayC_222] at c47
            refine A_aload_n 62 dX9_at_61 rfl rfl rfl ?_
            refine A_getfield 65 dX9_at_62 rfl f_X9_47 O0 rfl ?_
            refine A_iload_n 66 dX9_at_65 rfl rfl rfl ?_
            refine A_callVI 69 (S_X1_pocketsBehind X l (by first | assumption | decide | omega | exact Ne.symm (by assumption)) (by first | assumption | decide | omega | exact Ne.symm (by assumption))) dX9_at_66 rfl kX1_pocketsBehind lk_X9_184 rfl O16 (by decide) rfl (Nat.le_of_ble_eq_true rfl) (fun v_6 h_6 qh_6 => ?_)
            obtain ⟨rfl, rfl⟩ := qh_6
            have ew : wAt x (nI k_p) (nI k_hr) v = 0 := by
              first | (simp only [c8, cl_p, c12, n12, c18, n18, cl_hr, c31, c47, if_true, if_false, ite_true, ite_false, and_true, true_and, and_false, false_and, and_self, or_true, true_or, or_false, false_or, or_self, not_true_eq_false, not_false_eq_true, decide_true, decide_false, Bool.and_true, Bool.true_and, Bool.and_false, Bool.false_and, Bool.and_self, Bool.or_true, Bool.true_or, Bool.or_false, Bool.false_or, Bool.not_true, Bool.not_false, cond_true, cond_false, bI_t, bI_f, Bool.false_eq_true, Bool.true_eq_false, dayC_1, dayC_21, dayC_221, dayC_222, wAt, w01, wP, wPL, wP01, wL01, wRow, w01R, wAB, wNum, isP, isL]; done)
            refine A_iret dX9_at_69 rfl ⟨_, rfl, (by rw [ew, rV_0]; first | (simp only [c8, cl_p, c12, n12, c18, n18, cl_hr, c31, c47, if_true, if_false, ite_true, ite_false, and_true, true_and, and_false, false_and, and_self, or_true, true_or, or_false, false_or, or_self, not_true_eq_false, not_false_eq_true, decide_true, decide_false, Bool.and_true, Bool.true_and, Bool.and_false, Bool.false_and, Bool.and_self, Bool.or_true, Bool.true_or, Bool.or_false, Bool.false_or, Bool.not_true, Bool.not_false, cond_true, cond_false, bI_t, bI_f, Bool.false_eq_true, Bool.true_eq_false, dayC_1, dayC_21, dayC_221, dayC_222, aAt, pk]; done) | (simp [aAt, pk, *]; done)), _, (by rw [ew]; first | (rw [rS_0]; exact O0) | exact O0), O16, hf⟩
          · skip
            try simp only [bI_0, bI_n0, Classical.not_not, Bool.not_eq_false, Bool.true_and, Bool.and_true, decide_eq_true_eq, decide_eq_false_iff_not, dayC_1, dayC_21, dayC_221, dayC_222] at c47
            refine A_aload_n 51 dX9_at_50 rfl rfl rfl ?_
            refine A_getfield 54 dX9_at_51 rfl f_X9_47 O0 rfl ?_
            refine A_iload_n 55 dX9_at_54 rfl rfl rfl ?_
            refine A_callVI 58 (S_X1_lawIn X l (by first | assumption | decide | omega | exact Ne.symm (by assumption)) (by first | assumption | decide | omega | exact Ne.symm (by assumption))) dX9_at_55 rfl kX1_lawIn lk_X9_181 rfl O16 (by decide) rfl (Nat.le_of_ble_eq_true rfl) (fun v_7 h_7 qh_7 => ?_)
            obtain ⟨rfl, rfl⟩ := qh_7
            refine A_goto 69 dX9_at_58 (by decide) ?_
            have ew : wAt x (nI k_p) (nI k_hr) v = 0 := by
              first | (simp only [c8, cl_p, c12, n12, c18, n18, cl_hr, c31, c47, if_true, if_false, ite_true, ite_false, and_true, true_and, and_false, false_and, and_self, or_true, true_or, or_false, false_or, or_self, not_true_eq_false, not_false_eq_true, decide_true, decide_false, Bool.and_true, Bool.true_and, Bool.and_false, Bool.false_and, Bool.and_self, Bool.or_true, Bool.true_or, Bool.or_false, Bool.false_or, Bool.not_true, Bool.not_false, cond_true, cond_false, bI_t, bI_f, Bool.false_eq_true, Bool.true_eq_false, dayC_1, dayC_21, dayC_221, dayC_222, wAt, w01, wP, wPL, wP01, wL01, wRow, w01R, wAB, wNum, isP, isL]; done) | (simp only [c8, cl_p, c12, n12, c18, n18, cl_hr, c31, eq_true c47, if_true, if_false, ite_true, ite_false, and_true, true_and, and_false, false_and, and_self, or_true, true_or, or_false, false_or, or_self, not_true_eq_false, not_false_eq_true, decide_true, decide_false, Bool.and_true, Bool.true_and, Bool.and_false, Bool.false_and, Bool.and_self, Bool.or_true, Bool.true_or, Bool.or_false, Bool.false_or, Bool.not_true, Bool.not_false, cond_true, cond_false, bI_t, bI_f, Bool.false_eq_true, Bool.true_eq_false, dayC_1, dayC_21, dayC_221, dayC_222, wAt, w01, wP, wPL, wP01, wL01, wRow, w01R, wAB, wNum, isP, isL]; done)
            refine A_iret dX9_at_69 rfl ⟨_, rfl, (by rw [ew, rV_0]; first | (simp only [c8, cl_p, c12, n12, c18, n18, cl_hr, c31, c47, if_true, if_false, ite_true, ite_false, and_true, true_and, and_false, false_and, and_self, or_true, true_or, or_false, false_or, or_self, not_true_eq_false, not_false_eq_true, decide_true, decide_false, Bool.and_true, Bool.true_and, Bool.and_false, Bool.false_and, Bool.and_self, Bool.or_true, Bool.true_or, Bool.or_false, Bool.false_or, Bool.not_true, Bool.not_false, cond_true, cond_false, bI_t, bI_f, Bool.false_eq_true, Bool.true_eq_false, dayC_1, dayC_21, dayC_221, dayC_222, aAt, pk]; done) | (simp only [c8, cl_p, c12, n12, c18, n18, cl_hr, c31, eq_true c47, if_true, if_false, ite_true, ite_false, and_true, true_and, and_false, false_and, and_self, or_true, true_or, or_false, false_or, or_self, not_true_eq_false, not_false_eq_true, decide_true, decide_false, Bool.and_true, Bool.true_and, Bool.and_false, Bool.false_and, Bool.and_self, Bool.or_true, Bool.true_or, Bool.or_false, Bool.false_or, Bool.not_true, Bool.not_false, cond_true, cond_false, bI_t, bI_f, Bool.false_eq_true, Bool.true_eq_false, dayC_1, dayC_21, dayC_221, dayC_222, aAt, pk]; done) | (simp [aAt, pk, *]; done)), _, (by rw [ew]; first | (rw [rS_0]; exact O0) | exact O0), O16, hf⟩
        · skip
          try simp only [bI_0, bI_n0, Classical.not_not, Bool.not_eq_false, Bool.true_and, Bool.and_true, decide_eq_true_eq, decide_eq_false_iff_not, dayC_1, dayC_21, dayC_221, dayC_222] at c31
          refine A_aload_n 35 dX9_at_34 rfl rfl rfl ?_
          refine A_bipush 37 (-2) dX9_at_35 rfl (by decide) ?_
          refine A_callVI 40 (S_X9_refuse X l (by first | assumption | decide | omega | exact Ne.symm (by assumption)) (by first | assumption | (unfold CD; decide))) dX9_at_37 rfl kX9_refuse lk_X9_79 rfl O0 (by decide) rfl (Nat.le_of_ble_eq_true rfl) (fun v_8 h_8 qh_8 => ?_)
          obtain ⟨rfl, n0h_8, eh_8⟩ := qh_8
          replace O0 := n0h_8
          replace O1 := (eh_8 _ (by decide)).trans O1
          replace O16 := (eh_8 _ (by decide)).trans O16
          replace hf : ∀ i, i ≠ 0 → i ≠ 16 → h_8 i = h i := fun i g0 g1 => (eh_8 i g0).trans (hf i g0 g1)
          have ew : wAt x (nI k_p) (nI k_hr) v = -2 := by
            first | (simp only [c8, cl_p, c12, n12, c18, n18, cl_hr, c31, if_true, if_false, ite_true, ite_false, and_true, true_and, and_false, false_and, and_self, or_true, true_or, or_false, false_or, or_self, not_true_eq_false, not_false_eq_true, decide_true, decide_false, Bool.and_true, Bool.true_and, Bool.and_false, Bool.false_and, Bool.and_self, Bool.or_true, Bool.true_or, Bool.or_false, Bool.false_or, Bool.not_true, Bool.not_false, cond_true, cond_false, bI_t, bI_f, Bool.false_eq_true, Bool.true_eq_false, dayC_1, dayC_21, dayC_221, dayC_222, wAt, w01, wP, wPL, wP01, wL01, wRow, w01R, wAB, wNum, isP, isL]; done)
          refine A_iret dX9_at_40 rfl ⟨_, rfl, (by rw [ew]; exact rV_n (by decide)), _, (by rw [ew]; first | (rw [rS_0]; exact O0) | exact O0), O16, hf⟩
      · skip
        try simp only [bI_0, bI_n0, Classical.not_not, Bool.not_eq_false, Bool.true_and, Bool.and_true, decide_eq_true_eq, decide_eq_false_iff_not, dayC_1, dayC_21, dayC_221, dayC_222] at c18
        have n18 := Int32.not_lt.mp c18
        refine A_aload_n 22 dX9_at_21 rfl rfl rfl ?_
        refine A_iconst 23 (-1) dX9_at_22 rfl (by decide) ?_
        refine A_callVI 26 (S_X9_refuse X l (by first | assumption | decide | omega | exact Ne.symm (by assumption)) (by first | assumption | (unfold CD; decide))) dX9_at_23 rfl kX9_refuse lk_X9_79 rfl O0 (by decide) rfl (Nat.le_of_ble_eq_true rfl) (fun v_9 h_9 qh_9 => ?_)
        obtain ⟨rfl, n0h_9, eh_9⟩ := qh_9
        replace O0 := n0h_9
        replace O1 := (eh_9 _ (by decide)).trans O1
        replace O16 := (eh_9 _ (by decide)).trans O16
        replace hf : ∀ i, i ≠ 0 → i ≠ 16 → h_9 i = h i := fun i g0 g1 => (eh_9 i g0).trans (hf i g0 g1)
        have ew : wAt x (nI k_p) hr v = -1 := by
          first | (simp only [c8, cl_p, c12, n12, c18, n18, if_true, if_false, ite_true, ite_false, and_true, true_and, and_false, false_and, and_self, or_true, true_or, or_false, false_or, or_self, not_true_eq_false, not_false_eq_true, decide_true, decide_false, Bool.and_true, Bool.true_and, Bool.and_false, Bool.false_and, Bool.and_self, Bool.or_true, Bool.true_or, Bool.or_false, Bool.false_or, Bool.not_true, Bool.not_false, cond_true, cond_false, bI_t, bI_f, Bool.false_eq_true, Bool.true_eq_false, dayC_1, dayC_21, dayC_221, dayC_222, wAt, w01, wP, wPL, wP01, wL01, wRow, w01R, wAB, wNum, isP, isL]; done)
        refine A_iret dX9_at_26 rfl ⟨_, rfl, (by rw [ew]; exact rV_n (by decide)), _, (by rw [ew]; first | (rw [rS_0]; exact O0) | exact O0), O16, hf⟩
set_option maxHeartbeats 4000000 in
set_option maxRecDepth 100000 in
theorem S_X9_done (X : En) (l : Launch) {h : Hp} {x : PW} {g : Int32} {r : FI} (O0 : h 0 = some (maB g r)) (O1 : h 1 = some (wB 1 x)) (hW : WOK x)  {y16 : PC} (O16 : h 16 = some (cB 16 y16)) {p v : Int32} : Ct X l mX9_done [aR 0 0, aI p, aI v] h (QI (fun vr h2 => (rV (wDone x p v) (aDone x p v)) = vr ∧ ∃ (z16 : PC), h2 (0) = some (maB g (rS (wDone x p v) r)) ∧ h2 (16) = some (cB 16 z16) ∧ ∀ i, i ≠ 0 → i ≠ 16 → h2 i = h i)) := by
  have hx := hW.1
  have hp := hW.2.1
  have h10 := hx.1
  have hf : ∀ i, i ≠ 0 → i ≠ 16 → h i = h i := fun _ _ _ => rfl
  refine Ct.intro [some (aR 0 0), some (aI p), some (aI v), none] (by decide +kernel) rfl (Nat.le_of_ble_eq_true rfl) ?_
  refine A_aload_n 1 dX9_done_0 rfl rfl rfl ?_
  refine A_getfield 4 dX9_done_1 rfl f_X9_10 O0 rfl ?_
  refine A_iload_n 5 dX9_done_4 rfl rfl rfl ?_
  refine A_callVI 8 (S_X8_isPerson X l (by first | assumption | decide | omega | exact Ne.symm (by assumption))) dX9_done_5 rfl kX8_isPerson lk_X9_119 rfl O1 (by decide) rfl (Nat.le_of_ble_eq_true rfl) (fun v_1 h_1 qh_1 => ?_)
  obtain ⟨rfl, rfl⟩ := qh_1
  refine A_if_ne 17 11 dX9_done_8 (by decide) rfl (fun c8 => ?_) (fun c8 => ?_)
  · skip
    try simp only [bI_0, bI_n0, Classical.not_not, Bool.not_eq_false, Bool.true_and, Bool.and_true, decide_eq_true_eq, decide_eq_false_iff_not, dayC_1, dayC_21, dayC_221, dayC_222] at c8
    obtain ⟨k_p, rfl, hk_p⟩ := inN_ex c8 (by omega)
    have cl_p : (nI k_p).toNatClampNeg = k_p := nI_clamp (by omega)
    refine A_iload_n 18 dX9_done_17 rfl rfl rfl ?_
    refine A_if_lt 26 21 dX9_done_18 (by decide) rfl (fun c18 => ?_) (fun c18 => ?_)
    · skip
      try simp only [bI_0, bI_n0, Classical.not_not, Bool.not_eq_false, Bool.true_and, Bool.and_true, decide_eq_true_eq, decide_eq_false_iff_not, dayC_1, dayC_21, dayC_221, dayC_222] at c18
      have n18 := Int32.not_le.mpr c18
      refine A_aload_n 27 dX9_done_26 rfl rfl rfl ?_
      refine A_bipush 29 (-2) dX9_done_27 rfl (by decide) ?_
      refine A_callVI 32 (S_X9_refuse X l (by first | assumption | decide | omega | exact Ne.symm (by assumption)) (by first | assumption | (unfold CD; decide))) dX9_done_29 rfl kX9_refuse lk_X9_79 rfl O0 (by decide) rfl (Nat.le_of_ble_eq_true rfl) (fun v_2 h_2 qh_2 => ?_)
      obtain ⟨rfl, n0h_2, eh_2⟩ := qh_2
      replace O0 := n0h_2
      replace O1 := (eh_2 _ (by decide)).trans O1
      replace O16 := (eh_2 _ (by decide)).trans O16
      replace hf : ∀ i, i ≠ 0 → i ≠ 16 → h_2 i = h i := fun i g0 g1 => (eh_2 i g0).trans (hf i g0 g1)
      have ew : wDone x (nI k_p) v = -2 := by
        first | (simp only [c8, cl_p, c18, n18, if_true, if_false, ite_true, ite_false, and_true, true_and, and_false, false_and, and_self, or_true, true_or, or_false, false_or, or_self, not_true_eq_false, not_false_eq_true, decide_true, decide_false, Bool.and_true, Bool.true_and, Bool.and_false, Bool.false_and, Bool.and_self, Bool.or_true, Bool.true_or, Bool.or_false, Bool.false_or, Bool.not_true, Bool.not_false, cond_true, cond_false, bI_t, bI_f, Bool.false_eq_true, Bool.true_eq_false, dayC_1, dayC_21, dayC_221, dayC_222, wDone, w01, wP, wPL, wP01, wL01, wRow, w01R, wAB, wNum, isP, isL]; done)
      refine A_iret dX9_done_32 rfl ⟨_, rfl, (by rw [ew]; exact rV_n (by decide)), _, (by rw [ew]; first | (rw [rS_0]; exact O0) | exact O0), O16, hf⟩
    · skip
      try simp only [bI_0, bI_n0, Classical.not_not, Bool.not_eq_false, Bool.true_and, Bool.and_true, decide_eq_true_eq, decide_eq_false_iff_not, dayC_1, dayC_21, dayC_221, dayC_222] at c18
      have n18 := Int32.not_lt.mp c18
      refine A_iload_n 22 dX9_done_21 rfl rfl rfl ?_
      refine A_iconst 23 (3) dX9_done_22 rfl (by decide) ?_
      refine A_icmp_le 33 26 dX9_done_23 (by decide) rfl (fun c23 => ?_) (fun c23 => ?_)
      · skip
        try simp only [bI_0, bI_n0, Classical.not_not, Bool.not_eq_false, Bool.true_and, Bool.and_true, decide_eq_true_eq, decide_eq_false_iff_not, dayC_1, dayC_21, dayC_221, dayC_222] at c23
        have n23 := c23
        replace c23 := Int32.not_lt.mpr c23
        refine A_aload_n 34 dX9_done_33 rfl rfl rfl ?_
        refine A_getfield 37 dX9_done_34 rfl f_X9_10 O0 rfl ?_
        refine A_iload_n 38 dX9_done_37 rfl rfl rfl ?_
        refine A_callVI 41 (S_X8_pocketsOf X l (by first | assumption | decide | omega | exact Ne.symm (by assumption)) (by first | assumption | decide | omega | exact Ne.symm (by assumption))) dX9_done_38 rfl kX8_pocketsOf lk_X9_122 rfl O1 (by decide) rfl (Nat.le_of_ble_eq_true rfl) (fun v_3 h_3 qh_3 => ?_)
        obtain ⟨rfl, rfl⟩ := qh_3
        refine A_istore_n 42 dX9_done_41 rfl rfl (by decide) (by first | exact (ast_s (ast_s (ast_1 rfl))) | exact (ast_s (ast_s ast_k))) ?_
        refine A_aload_n 43 dX9_done_42 rfl rfl rfl ?_
        refine A_iload_n 44 dX9_done_43 rfl rfl rfl ?_
        refine A_callVV 47 (S_X9_goThrough X l (by first | assumption | decide | omega | exact Ne.symm (by assumption)) (by first | assumption | decide | omega | exact Ne.symm (by assumption)) (by first | assumption | decide | omega | exact Ne.symm (by assumption)) (by first | assumption | decide | omega | exact Ne.symm (by assumption)) (by first | assumption | decide | omega | exact Ne.symm (by assumption))) dX9_done_44 rfl kX9_goThrough lk_X9_177 rfl O0 (by decide) rfl (Nat.le_of_ble_eq_true rfl) (fun h_4 qh_4 => ?_)
        obtain ⟨n0h_4, eh_4⟩ := qh_4
        replace O0 := (eh_4 _ (by decide)).trans O0
        replace O1 := (eh_4 _ (by decide)).trans O1
        replace O16 := n0h_4
        replace hf : ∀ i, i ≠ 0 → i ≠ 16 → h_4 i = h i := fun i g0 g1 => (eh_4 i g1).trans (hf i g0 g1)
        refine A_iload_n 48 dX9_done_47 rfl rfl rfl ?_
        refine A_case (0) (fun e48_0 => ?_) (fun e48_0 => ?_)
        · skip
          refine A_switch 76 dX9_done_48 (by rw [e48_0]; decide) (by rw [e48_0]; rfl) (by decide) ?_
          refine A_aload_n 77 dX9_done_76 rfl rfl rfl ?_
          refine A_getfield 80 dX9_done_77 rfl f_X9_47 O0 rfl ?_
          refine A_callVI 83 (S_X1_lawsDone X l (by first | assumption | decide | omega | exact Ne.symm (by assumption))) dX9_done_80 rfl kX1_lawsDone lk_X9_187 rfl O16 (by decide) rfl (Nat.le_of_ble_eq_true rfl) (fun v_5 h_5 qh_5 => ?_)
          obtain ⟨rfl, rfl⟩ := qh_5
          have ew : wDone x (nI k_p) v = 0 := by
            first | (simp only [c8, cl_p, c18, n18, c23, n23, e48_0, if_true, if_false, ite_true, ite_false, and_true, true_and, and_false, false_and, and_self, or_true, true_or, or_false, false_or, or_self, not_true_eq_false, not_false_eq_true, decide_true, decide_false, Bool.and_true, Bool.true_and, Bool.and_false, Bool.false_and, Bool.and_self, Bool.or_true, Bool.true_or, Bool.or_false, Bool.false_or, Bool.not_true, Bool.not_false, cond_true, cond_false, bI_t, bI_f, Bool.false_eq_true, Bool.true_eq_false, dayC_1, dayC_21, dayC_221, dayC_222, wDone, w01, wP, wPL, wP01, wL01, wRow, w01R, wAB, wNum, isP, isL]; done) | (simp only [c8, cl_p, c18, n18, c23, n23, eq_true e48_0, if_true, if_false, ite_true, ite_false, and_true, true_and, and_false, false_and, and_self, or_true, true_or, or_false, false_or, or_self, not_true_eq_false, not_false_eq_true, decide_true, decide_false, Bool.and_true, Bool.true_and, Bool.and_false, Bool.false_and, Bool.and_self, Bool.or_true, Bool.true_or, Bool.or_false, Bool.false_or, Bool.not_true, Bool.not_false, cond_true, cond_false, bI_t, bI_f, Bool.false_eq_true, Bool.true_eq_false, dayC_1, dayC_21, dayC_221, dayC_222, wDone, w01, wP, wPL, wP01, wL01, wRow, w01R, wAB, wNum, isP, isL]; done)
          refine A_iret dX9_done_83 rfl ⟨_, rfl, (by rw [ew, rV_0]; first | (simp only [c8, cl_p, c18, n18, c23, n23, e48_0, if_true, if_false, ite_true, ite_false, and_true, true_and, and_false, false_and, and_self, or_true, true_or, or_false, false_or, or_self, not_true_eq_false, not_false_eq_true, decide_true, decide_false, Bool.and_true, Bool.true_and, Bool.and_false, Bool.false_and, Bool.and_self, Bool.or_true, Bool.true_or, Bool.or_false, Bool.false_or, Bool.not_true, Bool.not_false, cond_true, cond_false, bI_t, bI_f, Bool.false_eq_true, Bool.true_eq_false, dayC_1, dayC_21, dayC_221, dayC_222, aDone, pk]; done) | (simp only [c8, cl_p, c18, n18, c23, n23, eq_true e48_0, if_true, if_false, ite_true, ite_false, and_true, true_and, and_false, false_and, and_self, or_true, true_or, or_false, false_or, or_self, not_true_eq_false, not_false_eq_true, decide_true, decide_false, Bool.and_true, Bool.true_and, Bool.and_false, Bool.false_and, Bool.and_self, Bool.or_true, Bool.true_or, Bool.or_false, Bool.false_or, Bool.not_true, Bool.not_false, cond_true, cond_false, bI_t, bI_f, Bool.false_eq_true, Bool.true_eq_false, dayC_1, dayC_21, dayC_221, dayC_222, aDone, pk]; done) | (simp [aDone, pk, *]; done)), _, (by rw [ew]; first | (rw [rS_0]; exact O0) | exact O0), O16, hf⟩
        refine A_case (1) (fun e48_1 => ?_) (fun e48_1 => ?_)
        · skip
          refine A_switch 84 dX9_done_48 (by rw [e48_1]; decide) (by rw [e48_1]; rfl) (by decide) ?_
          refine A_aload_n 85 dX9_done_84 rfl rfl rfl ?_
          refine A_getfield 88 dX9_done_85 rfl f_X9_47 O0 rfl ?_
          refine A_callVI 91 (S_X1_lawsDone X l (by first | assumption | decide | omega | exact Ne.symm (by assumption))) dX9_done_88 rfl kX1_lawsDone lk_X9_187 rfl O16 (by decide) rfl (Nat.le_of_ble_eq_true rfl) (fun v_6 h_6 qh_6 => ?_)
          obtain ⟨rfl, rfl⟩ := qh_6
          refine A_callSI 94 (S_J6_bitCount_0f7a4 X l) dX9_done_91 rfl kJ6_bitCount_0f7a4 lk_X9_190 rfl (by decide) rfl (Nat.le_of_ble_eq_true rfl) (fun v_7 h_7 qh_7 => ?_)
          obtain ⟨rfl, rfl⟩ := qh_7
          have ew : wDone x (nI k_p) v = 0 := by
            first | (simp only [c8, cl_p, c18, n18, c23, n23, e48_0, e48_1, if_true, if_false, ite_true, ite_false, and_true, true_and, and_false, false_and, and_self, or_true, true_or, or_false, false_or, or_self, not_true_eq_false, not_false_eq_true, decide_true, decide_false, Bool.and_true, Bool.true_and, Bool.and_false, Bool.false_and, Bool.and_self, Bool.or_true, Bool.true_or, Bool.or_false, Bool.false_or, Bool.not_true, Bool.not_false, cond_true, cond_false, bI_t, bI_f, Bool.false_eq_true, Bool.true_eq_false, dayC_1, dayC_21, dayC_221, dayC_222, wDone, w01, wP, wPL, wP01, wL01, wRow, w01R, wAB, wNum, isP, isL]; done) | (simp only [c8, cl_p, c18, n18, c23, n23, e48_0, eq_true e48_1, if_true, if_false, ite_true, ite_false, and_true, true_and, and_false, false_and, and_self, or_true, true_or, or_false, false_or, or_self, not_true_eq_false, not_false_eq_true, decide_true, decide_false, Bool.and_true, Bool.true_and, Bool.and_false, Bool.false_and, Bool.and_self, Bool.or_true, Bool.true_or, Bool.or_false, Bool.false_or, Bool.not_true, Bool.not_false, cond_true, cond_false, bI_t, bI_f, Bool.false_eq_true, Bool.true_eq_false, dayC_1, dayC_21, dayC_221, dayC_222, wDone, w01, wP, wPL, wP01, wL01, wRow, w01R, wAB, wNum, isP, isL]; done)
          refine A_iret dX9_done_94 rfl ⟨_, rfl, (by rw [ew, rV_0]; first | (simp only [c8, cl_p, c18, n18, c23, n23, e48_0, e48_1, if_true, if_false, ite_true, ite_false, and_true, true_and, and_false, false_and, and_self, or_true, true_or, or_false, false_or, or_self, not_true_eq_false, not_false_eq_true, decide_true, decide_false, Bool.and_true, Bool.true_and, Bool.and_false, Bool.false_and, Bool.and_self, Bool.or_true, Bool.true_or, Bool.or_false, Bool.false_or, Bool.not_true, Bool.not_false, cond_true, cond_false, bI_t, bI_f, Bool.false_eq_true, Bool.true_eq_false, dayC_1, dayC_21, dayC_221, dayC_222, aDone, pk]; done) | (simp only [c8, cl_p, c18, n18, c23, n23, e48_0, eq_true e48_1, if_true, if_false, ite_true, ite_false, and_true, true_and, and_false, false_and, and_self, or_true, true_or, or_false, false_or, or_self, not_true_eq_false, not_false_eq_true, decide_true, decide_false, Bool.and_true, Bool.true_and, Bool.and_false, Bool.false_and, Bool.and_self, Bool.or_true, Bool.true_or, Bool.or_false, Bool.false_or, Bool.not_true, Bool.not_false, cond_true, cond_false, bI_t, bI_f, Bool.false_eq_true, Bool.true_eq_false, dayC_1, dayC_21, dayC_221, dayC_222, aDone, pk]; done) | (simp [aDone, pk, *]; done)), _, (by rw [ew]; first | (rw [rS_0]; exact O0) | exact O0), O16, hf⟩
        refine A_case (2) (fun e48_2 => ?_) (fun e48_2 => ?_)
        · skip
          refine A_switch 95 dX9_done_48 (by rw [e48_2]; decide) (by rw [e48_2]; rfl) (by decide) ?_
          refine A_iload_n 96 dX9_done_95 rfl rfl rfl ?_
          refine A_aload_n 97 dX9_done_96 rfl rfl rfl ?_
          refine A_getfield 100 dX9_done_97 rfl f_X9_47 O0 rfl ?_
          refine A_callVI 103 (S_X1_pocketsAtEnd X l (by first | assumption | decide | omega | exact Ne.symm (by assumption))) dX9_done_100 rfl kX1_pocketsAtEnd lk_X9_195 rfl O16 (by decide) rfl (Nat.le_of_ble_eq_true rfl) (fun v_8 h_8 qh_8 => ?_)
          obtain ⟨rfl, rfl⟩ := qh_8
          refine A_iconst 104 (-1) dX9_done_103 rfl (by decide) ?_
          refine A_ixor 105 dX9_done_104 rfl ?_
          refine A_iand 106 dX9_done_105 rfl ?_
          have ew : wDone x (nI k_p) v = 0 := by
            first | (simp only [c8, cl_p, c18, n18, c23, n23, e48_0, e48_1, e48_2, if_true, if_false, ite_true, ite_false, and_true, true_and, and_false, false_and, and_self, or_true, true_or, or_false, false_or, or_self, not_true_eq_false, not_false_eq_true, decide_true, decide_false, Bool.and_true, Bool.true_and, Bool.and_false, Bool.false_and, Bool.and_self, Bool.or_true, Bool.true_or, Bool.or_false, Bool.false_or, Bool.not_true, Bool.not_false, cond_true, cond_false, bI_t, bI_f, Bool.false_eq_true, Bool.true_eq_false, dayC_1, dayC_21, dayC_221, dayC_222, wDone, w01, wP, wPL, wP01, wL01, wRow, w01R, wAB, wNum, isP, isL]; done) | (simp only [c8, cl_p, c18, n18, c23, n23, e48_0, e48_1, eq_true e48_2, if_true, if_false, ite_true, ite_false, and_true, true_and, and_false, false_and, and_self, or_true, true_or, or_false, false_or, or_self, not_true_eq_false, not_false_eq_true, decide_true, decide_false, Bool.and_true, Bool.true_and, Bool.and_false, Bool.false_and, Bool.and_self, Bool.or_true, Bool.true_or, Bool.or_false, Bool.false_or, Bool.not_true, Bool.not_false, cond_true, cond_false, bI_t, bI_f, Bool.false_eq_true, Bool.true_eq_false, dayC_1, dayC_21, dayC_221, dayC_222, wDone, w01, wP, wPL, wP01, wL01, wRow, w01R, wAB, wNum, isP, isL]; done)
          refine A_iret dX9_done_106 rfl ⟨_, rfl, (by rw [ew, rV_0]; first | (simp only [c8, cl_p, c18, n18, c23, n23, e48_0, e48_1, e48_2, if_true, if_false, ite_true, ite_false, and_true, true_and, and_false, false_and, and_self, or_true, true_or, or_false, false_or, or_self, not_true_eq_false, not_false_eq_true, decide_true, decide_false, Bool.and_true, Bool.true_and, Bool.and_false, Bool.false_and, Bool.and_self, Bool.or_true, Bool.true_or, Bool.or_false, Bool.false_or, Bool.not_true, Bool.not_false, cond_true, cond_false, bI_t, bI_f, Bool.false_eq_true, Bool.true_eq_false, dayC_1, dayC_21, dayC_221, dayC_222, aDone, pk]; done) | (simp only [c8, cl_p, c18, n18, c23, n23, e48_0, e48_1, eq_true e48_2, if_true, if_false, ite_true, ite_false, and_true, true_and, and_false, false_and, and_self, or_true, true_or, or_false, false_or, or_self, not_true_eq_false, not_false_eq_true, decide_true, decide_false, Bool.and_true, Bool.true_and, Bool.and_false, Bool.false_and, Bool.and_self, Bool.or_true, Bool.true_or, Bool.or_false, Bool.false_or, Bool.not_true, Bool.not_false, cond_true, cond_false, bI_t, bI_f, Bool.false_eq_true, Bool.true_eq_false, dayC_1, dayC_21, dayC_221, dayC_222, aDone, pk]; done) | (simp [aDone, pk, *]; done)), _, (by rw [ew]; first | (rw [rS_0]; exact O0) | exact O0), O16, hf⟩
        refine A_switchD 107 dX9_done_48 (by have q0 := ne_toInt (k := 0) (z := 0) e48_0 (by decide); have q1 := ne_toInt (k := 1) (z := 1) e48_1 (by decide); have q2 := ne_toInt (k := 2) (z := 2) e48_2 (by decide); omega) (by decide) ?_
        refine A_aload_n 108 dX9_done_107 rfl rfl rfl ?_
        refine A_getfield 111 dX9_done_108 rfl f_X9_47 O0 rfl ?_
        refine A_callVI 114 (S_X1_pocketsAtEnd X l (by first | assumption | decide | omega | exact Ne.symm (by assumption))) dX9_done_111 rfl kX1_pocketsAtEnd lk_X9_195 rfl O16 (by decide) rfl (Nat.le_of_ble_eq_true rfl) (fun v_9 h_9 qh_9 => ?_)
        obtain ⟨rfl, rfl⟩ := qh_9
        refine A_iload_n 115 dX9_done_114 rfl rfl rfl ?_
        refine A_iconst 116 (-1) dX9_done_115 rfl (by decide) ?_
        refine A_ixor 117 dX9_done_116 rfl ?_
        refine A_iand 118 dX9_done_117 rfl ?_
        have ew : wDone x (nI k_p) v = 0 := by
          first | (simp only [c8, cl_p, c18, n18, c23, n23, e48_0, e48_1, e48_2, if_true, if_false, ite_true, ite_false, and_true, true_and, and_false, false_and, and_self, or_true, true_or, or_false, false_or, or_self, not_true_eq_false, not_false_eq_true, decide_true, decide_false, Bool.and_true, Bool.true_and, Bool.and_false, Bool.false_and, Bool.and_self, Bool.or_true, Bool.true_or, Bool.or_false, Bool.false_or, Bool.not_true, Bool.not_false, cond_true, cond_false, bI_t, bI_f, Bool.false_eq_true, Bool.true_eq_false, dayC_1, dayC_21, dayC_221, dayC_222, wDone, w01, wP, wPL, wP01, wL01, wRow, w01R, wAB, wNum, isP, isL]; done)
        refine A_iret dX9_done_118 rfl ⟨_, rfl, (by rw [ew, rV_0]; first | (simp only [c8, cl_p, c18, n18, c23, n23, e48_0, e48_1, e48_2, if_true, if_false, ite_true, ite_false, and_true, true_and, and_false, false_and, and_self, or_true, true_or, or_false, false_or, or_self, not_true_eq_false, not_false_eq_true, decide_true, decide_false, Bool.and_true, Bool.true_and, Bool.and_false, Bool.false_and, Bool.and_self, Bool.or_true, Bool.true_or, Bool.or_false, Bool.false_or, Bool.not_true, Bool.not_false, cond_true, cond_false, bI_t, bI_f, Bool.false_eq_true, Bool.true_eq_false, dayC_1, dayC_21, dayC_221, dayC_222, aDone, pk]; done) | (simp [aDone, pk, *]; done)), _, (by rw [ew]; first | (rw [rS_0]; exact O0) | exact O0), O16, hf⟩
      · skip
        try simp only [bI_0, bI_n0, Classical.not_not, Bool.not_eq_false, Bool.true_and, Bool.and_true, decide_eq_true_eq, decide_eq_false_iff_not, dayC_1, dayC_21, dayC_221, dayC_222] at c23
        have n23 := c23
        replace c23 := Int32.not_le.mp c23
        refine A_aload_n 27 dX9_done_26 rfl rfl rfl ?_
        refine A_bipush 29 (-2) dX9_done_27 rfl (by decide) ?_
        refine A_callVI 32 (S_X9_refuse X l (by first | assumption | decide | omega | exact Ne.symm (by assumption)) (by first | assumption | (unfold CD; decide))) dX9_done_29 rfl kX9_refuse lk_X9_79 rfl O0 (by decide) rfl (Nat.le_of_ble_eq_true rfl) (fun v_10 h_10 qh_10 => ?_)
        obtain ⟨rfl, n0h_10, eh_10⟩ := qh_10
        replace O0 := n0h_10
        replace O1 := (eh_10 _ (by decide)).trans O1
        replace O16 := (eh_10 _ (by decide)).trans O16
        replace hf : ∀ i, i ≠ 0 → i ≠ 16 → h_10 i = h i := fun i g0 g1 => (eh_10 i g0).trans (hf i g0 g1)
        have ew : wDone x (nI k_p) v = -2 := by
          first | (simp only [c8, cl_p, c18, n18, c23, n23, if_true, if_false, ite_true, ite_false, and_true, true_and, and_false, false_and, and_self, or_true, true_or, or_false, false_or, or_self, not_true_eq_false, not_false_eq_true, decide_true, decide_false, Bool.and_true, Bool.true_and, Bool.and_false, Bool.false_and, Bool.and_self, Bool.or_true, Bool.true_or, Bool.or_false, Bool.false_or, Bool.not_true, Bool.not_false, cond_true, cond_false, bI_t, bI_f, Bool.false_eq_true, Bool.true_eq_false, dayC_1, dayC_21, dayC_221, dayC_222, wDone, w01, wP, wPL, wP01, wL01, wRow, w01R, wAB, wNum, isP, isL]; done)
        refine A_iret dX9_done_32 rfl ⟨_, rfl, (by rw [ew]; exact rV_n (by decide)), _, (by rw [ew]; first | (rw [rS_0]; exact O0) | exact O0), O16, hf⟩
  · skip
    try simp only [bI_0, bI_n0, Classical.not_not, Bool.not_eq_false, Bool.true_and, Bool.and_true, decide_eq_true_eq, decide_eq_false_iff_not, dayC_1, dayC_21, dayC_221, dayC_222] at c8
    refine A_aload_n 12 dX9_done_11 rfl rfl rfl ?_
    refine A_iconst 13 (-1) dX9_done_12 rfl (by decide) ?_
    refine A_callVI 16 (S_X9_refuse X l (by first | assumption | decide | omega | exact Ne.symm (by assumption)) (by first | assumption | (unfold CD; decide))) dX9_done_13 rfl kX9_refuse lk_X9_79 rfl O0 (by decide) rfl (Nat.le_of_ble_eq_true rfl) (fun v_11 h_11 qh_11 => ?_)
    obtain ⟨rfl, n0h_11, eh_11⟩ := qh_11
    replace O0 := n0h_11
    replace O1 := (eh_11 _ (by decide)).trans O1
    replace O16 := (eh_11 _ (by decide)).trans O16
    replace hf : ∀ i, i ≠ 0 → i ≠ 16 → h_11 i = h i := fun i g0 g1 => (eh_11 i g0).trans (hf i g0 g1)
    have ew : wDone x p v = -1 := by
      first | (simp only [c8, if_true, if_false, ite_true, ite_false, and_true, true_and, and_false, false_and, and_self, or_true, true_or, or_false, false_or, or_self, not_true_eq_false, not_false_eq_true, decide_true, decide_false, Bool.and_true, Bool.true_and, Bool.and_false, Bool.false_and, Bool.and_self, Bool.or_true, Bool.true_or, Bool.or_false, Bool.false_or, Bool.not_true, Bool.not_false, cond_true, cond_false, bI_t, bI_f, Bool.false_eq_true, Bool.true_eq_false, dayC_1, dayC_21, dayC_221, dayC_222, wDone, w01, wP, wPL, wP01, wL01, wRow, w01R, wAB, wNum, isP, isL]; done)
    refine A_iret dX9_done_16 rfl ⟨_, rfl, (by rw [ew]; exact rV_n (by decide)), _, (by rw [ew]; first | (rw [rS_0]; exact O0) | exact O0), O16, hf⟩
set_option maxHeartbeats 4000000 in
set_option maxRecDepth 100000 in
theorem S_X9_when (X : En) (l : Launch) {h : Hp} {x : PW} {g : Int32} {r : FI} (O0 : h 0 = some (maB g r)) (O1 : h 1 = some (wB 1 x)) (hW : WOK x)  {y16 : PC} (O16 : h 16 = some (cB 16 y16)) {p l0 : Int32} : Ct X l mX9_when [aR 0 0, aI p, aI l0] h (QI (fun vr h2 => (rV (wPL x p l0) (aWhen x p l0)) = vr ∧ ∃ (z16 : PC), h2 (0) = some (maB g (rS (wPL x p l0) r)) ∧ h2 (16) = some (cB 16 z16) ∧ ∀ i, i ≠ 0 → i ≠ 16 → h2 i = h i)) := by
  have hx := hW.1
  have hp := hW.2.1
  have h10 := hx.1
  have hf : ∀ i, i ≠ 0 → i ≠ 16 → h i = h i := fun _ _ _ => rfl
  refine Ct.intro [some (aR 0 0), some (aI p), some (aI l0)] (by decide +kernel) rfl (Nat.le_of_ble_eq_true rfl) ?_
  refine A_aload_n 1 dX9_when_0 rfl rfl rfl ?_
  refine A_getfield 4 dX9_when_1 rfl f_X9_10 O0 rfl ?_
  refine A_iload_n 5 dX9_when_4 rfl rfl rfl ?_
  refine A_callVI 8 (S_X8_isPerson X l (by first | assumption | decide | omega | exact Ne.symm (by assumption))) dX9_when_5 rfl kX8_isPerson lk_X9_119 rfl O1 (by decide) rfl (Nat.le_of_ble_eq_true rfl) (fun v_1 h_1 qh_1 => ?_)
  obtain ⟨rfl, rfl⟩ := qh_1
  refine A_if_eq 22 11 dX9_when_8 (by decide) rfl (fun c8 => ?_) (fun c8 => ?_)
  · skip
    try simp only [bI_0, bI_n0, Classical.not_not, Bool.not_eq_false, Bool.true_and, Bool.and_true, decide_eq_true_eq, decide_eq_false_iff_not, dayC_1, dayC_21, dayC_221, dayC_222] at c8
    refine A_aload_n 23 dX9_when_22 rfl rfl rfl ?_
    refine A_iconst 24 (-1) dX9_when_23 rfl (by decide) ?_
    refine A_callVI 27 (S_X9_refuse X l (by first | assumption | decide | omega | exact Ne.symm (by assumption)) (by first | assumption | (unfold CD; decide))) dX9_when_24 rfl kX9_refuse lk_X9_79 rfl O0 (by decide) rfl (Nat.le_of_ble_eq_true rfl) (fun v_2 h_2 qh_2 => ?_)
    obtain ⟨rfl, n0h_2, eh_2⟩ := qh_2
    replace O0 := n0h_2
    replace O1 := (eh_2 _ (by decide)).trans O1
    replace O16 := (eh_2 _ (by decide)).trans O16
    replace hf : ∀ i, i ≠ 0 → i ≠ 16 → h_2 i = h i := fun i g0 g1 => (eh_2 i g0).trans (hf i g0 g1)
    have ew : wPL x p l0 = -1 := by
      first | (simp only [c8, if_true, if_false, ite_true, ite_false, and_true, true_and, and_false, false_and, and_self, or_true, true_or, or_false, false_or, or_self, not_true_eq_false, not_false_eq_true, decide_true, decide_false, Bool.and_true, Bool.true_and, Bool.and_false, Bool.false_and, Bool.and_self, Bool.or_true, Bool.true_or, Bool.or_false, Bool.false_or, Bool.not_true, Bool.not_false, cond_true, cond_false, bI_t, bI_f, Bool.false_eq_true, Bool.true_eq_false, dayC_1, dayC_21, dayC_221, dayC_222, w01, wP, wPL, wP01, wL01, wRow, w01R, wAB, wNum, isP, isL]; done)
    refine A_iret dX9_when_27 rfl ⟨_, rfl, (by rw [ew]; exact rV_n (by decide)), _, (by rw [ew]; first | (rw [rS_0]; exact O0) | exact O0), O16, hf⟩
  · skip
    try simp only [bI_0, bI_n0, Classical.not_not, Bool.not_eq_false, Bool.true_and, Bool.and_true, decide_eq_true_eq, decide_eq_false_iff_not, dayC_1, dayC_21, dayC_221, dayC_222] at c8
    obtain ⟨k_p, rfl, hk_p⟩ := inN_ex c8 (by omega)
    have cl_p : (nI k_p).toNatClampNeg = k_p := nI_clamp (by omega)
    refine A_aload_n 12 dX9_when_11 rfl rfl rfl ?_
    refine A_getfield 15 dX9_when_12 rfl f_X9_10 O0 rfl ?_
    refine A_iload_n 16 dX9_when_15 rfl rfl rfl ?_
    refine A_callVI 19 (S_X8_isLaw X l (by first | assumption | decide | omega | exact Ne.symm (by assumption))) dX9_when_16 rfl kX8_isLaw lk_X9_111 rfl O1 (by decide) rfl (Nat.le_of_ble_eq_true rfl) (fun v_3 h_3 qh_3 => ?_)
    obtain ⟨rfl, rfl⟩ := qh_3
    refine A_if_ne 28 22 dX9_when_19 (by decide) rfl (fun c19 => ?_) (fun c19 => ?_)
    · skip
      try simp only [bI_0, bI_n0, Classical.not_not, Bool.not_eq_false, Bool.true_and, Bool.and_true, decide_eq_true_eq, decide_eq_false_iff_not, dayC_1, dayC_21, dayC_221, dayC_222] at c19
      obtain ⟨k_l0, rfl, hk_l0⟩ := inN_ex c19 (by omega)
      have cl_l0 : (nI k_l0).toNatClampNeg = k_l0 := nI_clamp (by omega)
      refine A_aload_n 29 dX9_when_28 rfl rfl rfl ?_
      refine A_iload_n 30 dX9_when_29 rfl rfl rfl ?_
      refine A_callVV 33 (S_X9_goThrough X l (by first | assumption | decide | omega | exact Ne.symm (by assumption)) (by first | assumption | decide | omega | exact Ne.symm (by assumption)) (by first | assumption | decide | omega | exact Ne.symm (by assumption)) (by first | assumption | decide | omega | exact Ne.symm (by assumption)) (by first | assumption | decide | omega | exact Ne.symm (by assumption))) dX9_when_30 rfl kX9_goThrough lk_X9_177 rfl O0 (by decide) rfl (Nat.le_of_ble_eq_true rfl) (fun h_4 qh_4 => ?_)
      obtain ⟨n0h_4, eh_4⟩ := qh_4
      replace O0 := (eh_4 _ (by decide)).trans O0
      replace O1 := (eh_4 _ (by decide)).trans O1
      replace O16 := n0h_4
      replace hf : ∀ i, i ≠ 0 → i ≠ 16 → h_4 i = h i := fun i g0 g1 => (eh_4 i g1).trans (hf i g0 g1)
      refine A_aload_n 34 dX9_when_33 rfl rfl rfl ?_
      refine A_getfield 37 dX9_when_34 rfl f_X9_47 O0 rfl ?_
      refine A_iload_n 38 dX9_when_37 rfl rfl rfl ?_
      refine A_callVI 41 (S_X1_hourOf X l (by first | assumption | decide | omega | exact Ne.symm (by assumption))) dX9_when_38 rfl kX1_hourOf lk_X9_198 rfl O16 (by decide) rfl (Nat.le_of_ble_eq_true rfl) (fun v_5 h_5 qh_5 => ?_)
      obtain ⟨rfl, rfl⟩ := qh_5
      have ew : wPL x (nI k_p) (nI k_l0) = 0 := by
        first | (simp only [c8, cl_p, c19, cl_l0, if_true, if_false, ite_true, ite_false, and_true, true_and, and_false, false_and, and_self, or_true, true_or, or_false, false_or, or_self, not_true_eq_false, not_false_eq_true, decide_true, decide_false, Bool.and_true, Bool.true_and, Bool.and_false, Bool.false_and, Bool.and_self, Bool.or_true, Bool.true_or, Bool.or_false, Bool.false_or, Bool.not_true, Bool.not_false, cond_true, cond_false, bI_t, bI_f, Bool.false_eq_true, Bool.true_eq_false, dayC_1, dayC_21, dayC_221, dayC_222, w01, wP, wPL, wP01, wL01, wRow, w01R, wAB, wNum, isP, isL]; done)
      refine A_iret dX9_when_41 rfl ⟨_, rfl, (by rw [ew, rV_0]; first | (simp only [c8, cl_p, c19, cl_l0, if_true, if_false, ite_true, ite_false, and_true, true_and, and_false, false_and, and_self, or_true, true_or, or_false, false_or, or_self, not_true_eq_false, not_false_eq_true, decide_true, decide_false, Bool.and_true, Bool.true_and, Bool.and_false, Bool.false_and, Bool.and_self, Bool.or_true, Bool.true_or, Bool.or_false, Bool.false_or, Bool.not_true, Bool.not_false, cond_true, cond_false, bI_t, bI_f, Bool.false_eq_true, Bool.true_eq_false, dayC_1, dayC_21, dayC_221, dayC_222, aWhen, pk]; done) | (simp [aWhen, pk, *]; done)), _, (by rw [ew]; first | (rw [rS_0]; exact O0) | exact O0), O16, hf⟩
    · skip
      try simp only [bI_0, bI_n0, Classical.not_not, Bool.not_eq_false, Bool.true_and, Bool.and_true, decide_eq_true_eq, decide_eq_false_iff_not, dayC_1, dayC_21, dayC_221, dayC_222] at c19
      refine A_aload_n 23 dX9_when_22 rfl rfl rfl ?_
      refine A_iconst 24 (-1) dX9_when_23 rfl (by decide) ?_
      refine A_callVI 27 (S_X9_refuse X l (by first | assumption | decide | omega | exact Ne.symm (by assumption)) (by first | assumption | (unfold CD; decide))) dX9_when_24 rfl kX9_refuse lk_X9_79 rfl O0 (by decide) rfl (Nat.le_of_ble_eq_true rfl) (fun v_6 h_6 qh_6 => ?_)
      obtain ⟨rfl, n0h_6, eh_6⟩ := qh_6
      replace O0 := n0h_6
      replace O1 := (eh_6 _ (by decide)).trans O1
      replace O16 := (eh_6 _ (by decide)).trans O16
      replace hf : ∀ i, i ≠ 0 → i ≠ 16 → h_6 i = h i := fun i g0 g1 => (eh_6 i g0).trans (hf i g0 g1)
      have ew : wPL x (nI k_p) l0 = -1 := by
        first | (simp only [c8, cl_p, c19, if_true, if_false, ite_true, ite_false, and_true, true_and, and_false, false_and, and_self, or_true, true_or, or_false, false_or, or_self, not_true_eq_false, not_false_eq_true, decide_true, decide_false, Bool.and_true, Bool.true_and, Bool.and_false, Bool.false_and, Bool.and_self, Bool.or_true, Bool.true_or, Bool.or_false, Bool.false_or, Bool.not_true, Bool.not_false, cond_true, cond_false, bI_t, bI_f, Bool.false_eq_true, Bool.true_eq_false, dayC_1, dayC_21, dayC_221, dayC_222, w01, wP, wPL, wP01, wL01, wRow, w01R, wAB, wNum, isP, isL]; done)
      refine A_iret dX9_when_27 rfl ⟨_, rfl, (by rw [ew]; exact rV_n (by decide)), _, (by rw [ew]; first | (rw [rS_0]; exact O0) | exact O0), O16, hf⟩
set_option maxHeartbeats 4000000 in
set_option maxRecDepth 100000 in
theorem S_X9_instead (X : En) (l : Launch) {h : Hp} {x : PW} {g : Int32} {r : FI} (O0 : h 0 = some (maB g r)) (O1 : h 1 = some (wB 1 x)) (hW : WOK x)  {y16 : PC} (O16 : h 16 = some (cB 16 y16)) {p s0 v : Int32} : Ct X l mX9_instead [aR 0 0, aI p, aI s0, aI v] h (QI (fun vr h2 => (rV (wInst x p s0 v) (aInst x p s0 v)) = vr ∧ ∃ (z16 : PC), h2 (0) = some (maB g (rS (wInst x p s0 v) r)) ∧ h2 (16) = some (cB 16 z16) ∧ ∀ i, i ≠ 0 → i ≠ 16 → h2 i = h i)) := by
  have hx := hW.1
  have hp := hW.2.1
  have h10 := hx.1
  have hf : ∀ i, i ≠ 0 → i ≠ 16 → h i = h i := fun _ _ _ => rfl
  refine Ct.intro [some (aR 0 0), some (aI p), some (aI s0), some (aI v), none, none] (by decide +kernel) rfl (Nat.le_of_ble_eq_true rfl) ?_
  refine A_aload_n 1 dX9_instead_0 rfl rfl rfl ?_
  refine A_getfield 4 dX9_instead_1 rfl f_X9_10 O0 rfl ?_
  refine A_iload_n 5 dX9_instead_4 rfl rfl rfl ?_
  refine A_callVI 8 (S_X8_isPerson X l (by first | assumption | decide | omega | exact Ne.symm (by assumption))) dX9_instead_5 rfl kX8_isPerson lk_X9_119 rfl O1 (by decide) rfl (Nat.le_of_ble_eq_true rfl) (fun v_1 h_1 qh_1 => ?_)
  obtain ⟨rfl, rfl⟩ := qh_1
  refine A_if_ne 17 11 dX9_instead_8 (by decide) rfl (fun c8 => ?_) (fun c8 => ?_)
  · skip
    try simp only [bI_0, bI_n0, Classical.not_not, Bool.not_eq_false, Bool.true_and, Bool.and_true, decide_eq_true_eq, decide_eq_false_iff_not, dayC_1, dayC_21, dayC_221, dayC_222] at c8
    obtain ⟨k_p, rfl, hk_p⟩ := inN_ex c8 (by omega)
    have cl_p : (nI k_p).toNatClampNeg = k_p := nI_clamp (by omega)
    refine A_iload_n 18 dX9_instead_17 rfl rfl rfl ?_
    refine A_if_ge 28 21 dX9_instead_18 (by decide) rfl (fun c18 => ?_) (fun c18 => ?_)
    · skip
      try simp only [bI_0, bI_n0, Classical.not_not, Bool.not_eq_false, Bool.true_and, Bool.and_true, decide_eq_true_eq, decide_eq_false_iff_not, dayC_1, dayC_21, dayC_221, dayC_222] at c18
      have n18 := c18
      replace c18 := Int32.not_lt.mpr c18
      refine A_iload_n 29 dX9_instead_28 rfl rfl rfl ?_
      refine A_sipush 32 (255) dX9_instead_29 rfl (by decide) ?_
      refine A_icmp_le 42 35 dX9_instead_32 (by decide) rfl (fun c32 => ?_) (fun c32 => ?_)
      · skip
        try simp only [bI_0, bI_n0, Classical.not_not, Bool.not_eq_false, Bool.true_and, Bool.and_true, decide_eq_true_eq, decide_eq_false_iff_not, dayC_1, dayC_21, dayC_221, dayC_222] at c32
        have n32 := c32
        replace c32 := Int32.not_lt.mpr c32
        refine A_iload_n 43 dX9_instead_42 rfl rfl rfl ?_
        refine A_callSI 46 (S_X9_isNot0or1 X l) dX9_instead_43 rfl kX9_isNot0or1 lk_X9_174 rfl (by decide) rfl (Nat.le_of_ble_eq_true rfl) (fun v_2 h_2 qh_2 => ?_)
        obtain ⟨rfl, rfl⟩ := qh_2
        refine A_if_eq 56 49 dX9_instead_46 (by decide) rfl (fun c46 => ?_) (fun c46 => ?_)
        · skip
          try simp only [bI_0, bI_n0, Classical.not_not, Bool.not_eq_false, Bool.true_and, Bool.and_true, decide_eq_true_eq, decide_eq_false_iff_not, dayC_1, dayC_21, dayC_221, dayC_222] at c46
          refine A_aload_n 57 dX9_instead_56 rfl rfl rfl ?_
          refine A_getfield 60 dX9_instead_57 rfl f_X9_10 O0 rfl ?_
          refine A_iload_n 61 dX9_instead_60 rfl rfl rfl ?_
          refine A_callVI 64 (S_X8_pocketsOf X l (by first | assumption | decide | omega | exact Ne.symm (by assumption)) (by first | assumption | decide | omega | exact Ne.symm (by assumption))) dX9_instead_61 rfl kX8_pocketsOf lk_X9_122 rfl O1 (by decide) rfl (Nat.le_of_ble_eq_true rfl) (fun v_3 h_3 qh_3 => ?_)
          obtain ⟨rfl, rfl⟩ := qh_3
          refine A_istore 66 dX9_instead_64 rfl (by decide) (by first | exact (ast_s (ast_s (ast_s (ast_1 rfl)))) | exact (ast_s (ast_s (ast_s ast_k)))) ?_
          refine A_aload_n 67 dX9_instead_66 rfl rfl rfl ?_
          refine A_getfield 70 dX9_instead_67 rfl f_X9_47 O0 rfl ?_
          refine A_aload_n 71 dX9_instead_70 rfl rfl rfl ?_
          refine A_getfield 74 dX9_instead_71 rfl f_X9_10 O0 rfl ?_
          refine A_iload 76 dX9_instead_74 rfl rfl ?_
          refine A_iload_n 77 dX9_instead_76 rfl rfl rfl ?_
          refine A_iconst 78 (-1) dX9_instead_77 rfl (by decide) ?_
          refine A_ixor 79 dX9_instead_78 rfl ?_
          refine A_iand 80 dX9_instead_79 rfl ?_
          refine A_iconst 81 (0) dX9_instead_80 rfl (by decide) ?_
          refine A_callVI 84 (S_X1_run X l (by first | assumption | decide | omega | exact Ne.symm (by assumption)) (by first | assumption | decide | omega | exact Ne.symm (by assumption)) (by first | assumption | decide | omega | exact Ne.symm (by assumption)) (by first | assumption | decide | omega | exact Ne.symm (by assumption))) dX9_instead_81 rfl kX1_run lk_X9_201 rfl O16 (by decide) rfl (Nat.le_of_ble_eq_true rfl) (fun v_4 h_4 qh_4 => ?_)
          obtain ⟨rfl, n0h_4, eh_4⟩ := qh_4
          replace O0 := (eh_4 _ (by decide)).trans O0
          replace O1 := (eh_4 _ (by decide)).trans O1
          replace O16 := n0h_4
          replace hf : ∀ i, i ≠ 0 → i ≠ 16 → h_4 i = h i := fun i g0 g1 => (eh_4 i g1).trans (hf i g0 g1)
          refine A_istore 86 dX9_instead_84 rfl (by decide) (by first | exact (ast_s (ast_s (ast_s (ast_s (ast_1 rfl))))) | exact (ast_s (ast_s (ast_s (ast_s ast_k))))) ?_
          refine A_iload_n 87 dX9_instead_86 rfl rfl rfl ?_
          refine A_if_ne 95 90 dX9_instead_87 (by decide) rfl (fun c87 => ?_) (fun c87 => ?_)
          · skip
            try simp only [bI_0, bI_n0, Classical.not_not, Bool.not_eq_false, Bool.true_and, Bool.and_true, decide_eq_true_eq, decide_eq_false_iff_not, dayC_1, dayC_21, dayC_221, dayC_222] at c87
            refine A_iload 97 dX9_instead_95 rfl rfl ?_
            refine A_aload_n 98 dX9_instead_97 rfl rfl rfl ?_
            refine A_getfield 101 dX9_instead_98 rfl f_X9_47 O0 rfl ?_
            refine A_aload_n 102 dX9_instead_101 rfl rfl rfl ?_
            refine A_getfield 105 dX9_instead_102 rfl f_X9_10 O0 rfl ?_
            refine A_iload 107 dX9_instead_105 rfl rfl ?_
            refine A_iconst 108 (0) dX9_instead_107 rfl (by decide) ?_
            refine A_callVI 111 (S_X1_run X l (by first | assumption | decide | omega | exact Ne.symm (by assumption)) (by first | assumption | decide | omega | exact Ne.symm (by assumption)) (by first | assumption | decide | omega | exact Ne.symm (by assumption)) (by first | assumption | decide | omega | exact Ne.symm (by assumption))) dX9_instead_108 rfl kX1_run lk_X9_201 rfl O16 (by decide) rfl (Nat.le_of_ble_eq_true rfl) (fun v_5 h_5 qh_5 => ?_)
            obtain ⟨rfl, n0h_5, eh_5⟩ := qh_5
            replace O0 := (eh_5 _ (by decide)).trans O0
            replace O1 := (eh_5 _ (by decide)).trans O1
            replace O16 := n0h_5
            replace hf : ∀ i, i ≠ 0 → i ≠ 16 → h_5 i = h i := fun i g0 g1 => (eh_5 i g1).trans (hf i g0 g1)
            refine A_iconst 112 (-1) dX9_instead_111 rfl (by decide) ?_
            refine A_ixor 113 dX9_instead_112 rfl ?_
            refine A_iand 114 dX9_instead_113 rfl ?_
            have ew : wInst x (nI k_p) s0 v = 0 := by
              first | (simp only [c8, cl_p, c18, n18, c32, n32, c46, c87, if_true, if_false, ite_true, ite_false, and_true, true_and, and_false, false_and, and_self, or_true, true_or, or_false, false_or, or_self, not_true_eq_false, not_false_eq_true, decide_true, decide_false, Bool.and_true, Bool.true_and, Bool.and_false, Bool.false_and, Bool.and_self, Bool.or_true, Bool.true_or, Bool.or_false, Bool.false_or, Bool.not_true, Bool.not_false, cond_true, cond_false, bI_t, bI_f, Bool.false_eq_true, Bool.true_eq_false, dayC_1, dayC_21, dayC_221, dayC_222, wInst, w01, wP, wPL, wP01, wL01, wRow, w01R, wAB, wNum, isP, isL]; done)
            refine A_iret dX9_instead_114 rfl ⟨_, rfl, (by rw [ew, rV_0]; first | (simp only [c8, cl_p, c18, n18, c32, n32, c46, c87, if_true, if_false, ite_true, ite_false, and_true, true_and, and_false, false_and, and_self, or_true, true_or, or_false, false_or, or_self, not_true_eq_false, not_false_eq_true, decide_true, decide_false, Bool.and_true, Bool.true_and, Bool.and_false, Bool.false_and, Bool.and_self, Bool.or_true, Bool.true_or, Bool.or_false, Bool.false_or, Bool.not_true, Bool.not_false, cond_true, cond_false, bI_t, bI_f, Bool.false_eq_true, Bool.true_eq_false, dayC_1, dayC_21, dayC_221, dayC_222, aInst, pk]; done) | (simp [aInst, pk, *]; done)), _, (by rw [ew]; first | (rw [rS_0]; exact O0) | exact O0), O16, hf⟩
          · skip
            try simp only [bI_0, bI_n0, Classical.not_not, Bool.not_eq_false, Bool.true_and, Bool.and_true, decide_eq_true_eq, decide_eq_false_iff_not, dayC_1, dayC_21, dayC_221, dayC_222] at c87
            refine A_iload 92 dX9_instead_90 rfl rfl ?_
            refine A_goto 114 dX9_instead_92 (by decide) ?_
            have ew : wInst x (nI k_p) s0 v = 0 := by
              first | (simp only [c8, cl_p, c18, n18, c32, n32, c46, c87, if_true, if_false, ite_true, ite_false, and_true, true_and, and_false, false_and, and_self, or_true, true_or, or_false, false_or, or_self, not_true_eq_false, not_false_eq_true, decide_true, decide_false, Bool.and_true, Bool.true_and, Bool.and_false, Bool.false_and, Bool.and_self, Bool.or_true, Bool.true_or, Bool.or_false, Bool.false_or, Bool.not_true, Bool.not_false, cond_true, cond_false, bI_t, bI_f, Bool.false_eq_true, Bool.true_eq_false, dayC_1, dayC_21, dayC_221, dayC_222, wInst, w01, wP, wPL, wP01, wL01, wRow, w01R, wAB, wNum, isP, isL]; done) | (simp only [c8, cl_p, c18, n18, c32, n32, c46, eq_true c87, if_true, if_false, ite_true, ite_false, and_true, true_and, and_false, false_and, and_self, or_true, true_or, or_false, false_or, or_self, not_true_eq_false, not_false_eq_true, decide_true, decide_false, Bool.and_true, Bool.true_and, Bool.and_false, Bool.false_and, Bool.and_self, Bool.or_true, Bool.true_or, Bool.or_false, Bool.false_or, Bool.not_true, Bool.not_false, cond_true, cond_false, bI_t, bI_f, Bool.false_eq_true, Bool.true_eq_false, dayC_1, dayC_21, dayC_221, dayC_222, wInst, w01, wP, wPL, wP01, wL01, wRow, w01R, wAB, wNum, isP, isL]; done)
            refine A_iret dX9_instead_114 rfl ⟨_, rfl, (by rw [ew, rV_0]; first | (simp only [c8, cl_p, c18, n18, c32, n32, c46, c87, if_true, if_false, ite_true, ite_false, and_true, true_and, and_false, false_and, and_self, or_true, true_or, or_false, false_or, or_self, not_true_eq_false, not_false_eq_true, decide_true, decide_false, Bool.and_true, Bool.true_and, Bool.and_false, Bool.false_and, Bool.and_self, Bool.or_true, Bool.true_or, Bool.or_false, Bool.false_or, Bool.not_true, Bool.not_false, cond_true, cond_false, bI_t, bI_f, Bool.false_eq_true, Bool.true_eq_false, dayC_1, dayC_21, dayC_221, dayC_222, aInst, pk]; done) | (simp only [c8, cl_p, c18, n18, c32, n32, c46, eq_true c87, if_true, if_false, ite_true, ite_false, and_true, true_and, and_false, false_and, and_self, or_true, true_or, or_false, false_or, or_self, not_true_eq_false, not_false_eq_true, decide_true, decide_false, Bool.and_true, Bool.true_and, Bool.and_false, Bool.false_and, Bool.and_self, Bool.or_true, Bool.true_or, Bool.or_false, Bool.false_or, Bool.not_true, Bool.not_false, cond_true, cond_false, bI_t, bI_f, Bool.false_eq_true, Bool.true_eq_false, dayC_1, dayC_21, dayC_221, dayC_222, aInst, pk]; done) | (simp [aInst, pk, *]; done)), _, (by rw [ew]; first | (rw [rS_0]; exact O0) | exact O0), O16, hf⟩
        · skip
          try simp only [bI_0, bI_n0, Classical.not_not, Bool.not_eq_false, Bool.true_and, Bool.and_true, decide_eq_true_eq, decide_eq_false_iff_not, dayC_1, dayC_21, dayC_221, dayC_222] at c46
          refine A_aload_n 50 dX9_instead_49 rfl rfl rfl ?_
          refine A_bipush 52 (-2) dX9_instead_50 rfl (by decide) ?_
          refine A_callVI 55 (S_X9_refuse X l (by first | assumption | decide | omega | exact Ne.symm (by assumption)) (by first | assumption | (unfold CD; decide))) dX9_instead_52 rfl kX9_refuse lk_X9_79 rfl O0 (by decide) rfl (Nat.le_of_ble_eq_true rfl) (fun v_6 h_6 qh_6 => ?_)
          obtain ⟨rfl, n0h_6, eh_6⟩ := qh_6
          replace O0 := n0h_6
          replace O1 := (eh_6 _ (by decide)).trans O1
          replace O16 := (eh_6 _ (by decide)).trans O16
          replace hf : ∀ i, i ≠ 0 → i ≠ 16 → h_6 i = h i := fun i g0 g1 => (eh_6 i g0).trans (hf i g0 g1)
          have ew : wInst x (nI k_p) s0 v = -2 := by
            first | (simp only [c8, cl_p, c18, n18, c32, n32, c46, if_true, if_false, ite_true, ite_false, and_true, true_and, and_false, false_and, and_self, or_true, true_or, or_false, false_or, or_self, not_true_eq_false, not_false_eq_true, decide_true, decide_false, Bool.and_true, Bool.true_and, Bool.and_false, Bool.false_and, Bool.and_self, Bool.or_true, Bool.true_or, Bool.or_false, Bool.false_or, Bool.not_true, Bool.not_false, cond_true, cond_false, bI_t, bI_f, Bool.false_eq_true, Bool.true_eq_false, dayC_1, dayC_21, dayC_221, dayC_222, wInst, w01, wP, wPL, wP01, wL01, wRow, w01R, wAB, wNum, isP, isL]; done)
          refine A_iret dX9_instead_55 rfl ⟨_, rfl, (by rw [ew]; exact rV_n (by decide)), _, (by rw [ew]; first | (rw [rS_0]; exact O0) | exact O0), O16, hf⟩
      · skip
        try simp only [bI_0, bI_n0, Classical.not_not, Bool.not_eq_false, Bool.true_and, Bool.and_true, decide_eq_true_eq, decide_eq_false_iff_not, dayC_1, dayC_21, dayC_221, dayC_222] at c32
        have n32 := c32
        replace c32 := Int32.not_le.mp c32
        refine A_aload_n 36 dX9_instead_35 rfl rfl rfl ?_
        refine A_bipush 38 (-6) dX9_instead_36 rfl (by decide) ?_
        refine A_callVI 41 (S_X9_refuse X l (by first | assumption | decide | omega | exact Ne.symm (by assumption)) (by first | assumption | (unfold CD; decide))) dX9_instead_38 rfl kX9_refuse lk_X9_79 rfl O0 (by decide) rfl (Nat.le_of_ble_eq_true rfl) (fun v_7 h_7 qh_7 => ?_)
        obtain ⟨rfl, n0h_7, eh_7⟩ := qh_7
        replace O0 := n0h_7
        replace O1 := (eh_7 _ (by decide)).trans O1
        replace O16 := (eh_7 _ (by decide)).trans O16
        replace hf : ∀ i, i ≠ 0 → i ≠ 16 → h_7 i = h i := fun i g0 g1 => (eh_7 i g0).trans (hf i g0 g1)
        have ew : wInst x (nI k_p) s0 v = -6 := by
          first | (simp only [c8, cl_p, c18, n18, c32, n32, if_true, if_false, ite_true, ite_false, and_true, true_and, and_false, false_and, and_self, or_true, true_or, or_false, false_or, or_self, not_true_eq_false, not_false_eq_true, decide_true, decide_false, Bool.and_true, Bool.true_and, Bool.and_false, Bool.false_and, Bool.and_self, Bool.or_true, Bool.true_or, Bool.or_false, Bool.false_or, Bool.not_true, Bool.not_false, cond_true, cond_false, bI_t, bI_f, Bool.false_eq_true, Bool.true_eq_false, dayC_1, dayC_21, dayC_221, dayC_222, wInst, w01, wP, wPL, wP01, wL01, wRow, w01R, wAB, wNum, isP, isL]; done)
        refine A_iret dX9_instead_41 rfl ⟨_, rfl, (by rw [ew]; exact rV_n (by decide)), _, (by rw [ew]; first | (rw [rS_0]; exact O0) | exact O0), O16, hf⟩
    · skip
      try simp only [bI_0, bI_n0, Classical.not_not, Bool.not_eq_false, Bool.true_and, Bool.and_true, decide_eq_true_eq, decide_eq_false_iff_not, dayC_1, dayC_21, dayC_221, dayC_222] at c18
      have n18 := c18
      replace c18 := Int32.not_le.mp c18
      refine A_aload_n 22 dX9_instead_21 rfl rfl rfl ?_
      refine A_bipush 24 (-4) dX9_instead_22 rfl (by decide) ?_
      refine A_callVI 27 (S_X9_refuse X l (by first | assumption | decide | omega | exact Ne.symm (by assumption)) (by first | assumption | (unfold CD; decide))) dX9_instead_24 rfl kX9_refuse lk_X9_79 rfl O0 (by decide) rfl (Nat.le_of_ble_eq_true rfl) (fun v_8 h_8 qh_8 => ?_)
      obtain ⟨rfl, n0h_8, eh_8⟩ := qh_8
      replace O0 := n0h_8
      replace O1 := (eh_8 _ (by decide)).trans O1
      replace O16 := (eh_8 _ (by decide)).trans O16
      replace hf : ∀ i, i ≠ 0 → i ≠ 16 → h_8 i = h i := fun i g0 g1 => (eh_8 i g0).trans (hf i g0 g1)
      have ew : wInst x (nI k_p) s0 v = -4 := by
        first | (simp only [c8, cl_p, c18, n18, if_true, if_false, ite_true, ite_false, and_true, true_and, and_false, false_and, and_self, or_true, true_or, or_false, false_or, or_self, not_true_eq_false, not_false_eq_true, decide_true, decide_false, Bool.and_true, Bool.true_and, Bool.and_false, Bool.false_and, Bool.and_self, Bool.or_true, Bool.true_or, Bool.or_false, Bool.false_or, Bool.not_true, Bool.not_false, cond_true, cond_false, bI_t, bI_f, Bool.false_eq_true, Bool.true_eq_false, dayC_1, dayC_21, dayC_221, dayC_222, wInst, w01, wP, wPL, wP01, wL01, wRow, w01R, wAB, wNum, isP, isL]; done)
      refine A_iret dX9_instead_27 rfl ⟨_, rfl, (by rw [ew]; exact rV_n (by decide)), _, (by rw [ew]; first | (rw [rS_0]; exact O0) | exact O0), O16, hf⟩
  · skip
    try simp only [bI_0, bI_n0, Classical.not_not, Bool.not_eq_false, Bool.true_and, Bool.and_true, decide_eq_true_eq, decide_eq_false_iff_not, dayC_1, dayC_21, dayC_221, dayC_222] at c8
    refine A_aload_n 12 dX9_instead_11 rfl rfl rfl ?_
    refine A_iconst 13 (-1) dX9_instead_12 rfl (by decide) ?_
    refine A_callVI 16 (S_X9_refuse X l (by first | assumption | decide | omega | exact Ne.symm (by assumption)) (by first | assumption | (unfold CD; decide))) dX9_instead_13 rfl kX9_refuse lk_X9_79 rfl O0 (by decide) rfl (Nat.le_of_ble_eq_true rfl) (fun v_9 h_9 qh_9 => ?_)
    obtain ⟨rfl, n0h_9, eh_9⟩ := qh_9
    replace O0 := n0h_9
    replace O1 := (eh_9 _ (by decide)).trans O1
    replace O16 := (eh_9 _ (by decide)).trans O16
    replace hf : ∀ i, i ≠ 0 → i ≠ 16 → h_9 i = h i := fun i g0 g1 => (eh_9 i g0).trans (hf i g0 g1)
    have ew : wInst x p s0 v = -1 := by
      first | (simp only [c8, if_true, if_false, ite_true, ite_false, and_true, true_and, and_false, false_and, and_self, or_true, true_or, or_false, false_or, or_self, not_true_eq_false, not_false_eq_true, decide_true, decide_false, Bool.and_true, Bool.true_and, Bool.and_false, Bool.false_and, Bool.and_self, Bool.or_true, Bool.true_or, Bool.or_false, Bool.false_or, Bool.not_true, Bool.not_false, cond_true, cond_false, bI_t, bI_f, Bool.false_eq_true, Bool.true_eq_false, dayC_1, dayC_21, dayC_221, dayC_222, wInst, w01, wP, wPL, wP01, wL01, wRow, w01R, wAB, wNum, isP, isL]; done)
    refine A_iret dX9_instead_16 rfl ⟨_, rfl, (by rw [ew]; exact rV_n (by decide)), _, (by rw [ew]; first | (rw [rS_0]; exact O0) | exact O0), O16, hf⟩
set_option maxHeartbeats 4000000 in
set_option maxRecDepth 100000 in
theorem S_X9_stopped (X : En) (l : Launch) {h : Hp} {x : PW} {g : Int32} {r : FI} (O0 : h 0 = some (maB g r)) (O1 : h 1 = some (wB 1 x)) (hW : WOK x)  {y20 : PC} (O19 : h 19 = some (seB)) (O20 : h 20 = some (cB 20 y20)) {p l0 : Int32} : Ct X l mX9_stopped [aR 0 0, aI p, aI l0] h (QI (fun vr h2 => (rV (wPL x p l0) (aStop x p l0)) = vr ∧ ∃ (z20 : PC), h2 (0) = some (maB g (rS (wPL x p l0) r)) ∧ h2 (20) = some (cB 20 z20) ∧ ∀ i, i ≠ 0 → i ≠ 20 → h2 i = h i)) := by
  have hx := hW.1
  have hp := hW.2.1
  have h10 := hx.1
  have hf : ∀ i, i ≠ 0 → i ≠ 20 → h i = h i := fun _ _ _ => rfl
  refine Ct.intro [some (aR 0 0), some (aI p), some (aI l0)] (by decide +kernel) rfl (Nat.le_of_ble_eq_true rfl) ?_
  refine A_aload_n 1 dX9_stopped_0 rfl rfl rfl ?_
  refine A_getfield 4 dX9_stopped_1 rfl f_X9_10 O0 rfl ?_
  refine A_iload_n 5 dX9_stopped_4 rfl rfl rfl ?_
  refine A_callVI 8 (S_X8_isPerson X l (by first | assumption | decide | omega | exact Ne.symm (by assumption))) dX9_stopped_5 rfl kX8_isPerson lk_X9_119 rfl O1 (by decide) rfl (Nat.le_of_ble_eq_true rfl) (fun v_1 h_1 qh_1 => ?_)
  obtain ⟨rfl, rfl⟩ := qh_1
  refine A_if_eq 22 11 dX9_stopped_8 (by decide) rfl (fun c8 => ?_) (fun c8 => ?_)
  · skip
    try simp only [bI_0, bI_n0, Classical.not_not, Bool.not_eq_false, Bool.true_and, Bool.and_true, decide_eq_true_eq, decide_eq_false_iff_not, dayC_1, dayC_21, dayC_221, dayC_222] at c8
    refine A_aload_n 23 dX9_stopped_22 rfl rfl rfl ?_
    refine A_iconst 24 (-1) dX9_stopped_23 rfl (by decide) ?_
    refine A_callVI 27 (S_X9_refuse X l (by first | assumption | decide | omega | exact Ne.symm (by assumption)) (by first | assumption | (unfold CD; decide))) dX9_stopped_24 rfl kX9_refuse lk_X9_79 rfl O0 (by decide) rfl (Nat.le_of_ble_eq_true rfl) (fun v_2 h_2 qh_2 => ?_)
    obtain ⟨rfl, n0h_2, eh_2⟩ := qh_2
    replace O0 := n0h_2
    replace O1 := (eh_2 _ (by decide)).trans O1
    replace O19 := (eh_2 _ (by decide)).trans O19
    replace O20 := (eh_2 _ (by decide)).trans O20
    replace hf : ∀ i, i ≠ 0 → i ≠ 20 → h_2 i = h i := fun i g0 g1 => (eh_2 i g0).trans (hf i g0 g1)
    have ew : wPL x p l0 = -1 := by
      first | (simp only [c8, if_true, if_false, ite_true, ite_false, and_true, true_and, and_false, false_and, and_self, or_true, true_or, or_false, false_or, or_self, not_true_eq_false, not_false_eq_true, decide_true, decide_false, Bool.and_true, Bool.true_and, Bool.and_false, Bool.false_and, Bool.and_self, Bool.or_true, Bool.true_or, Bool.or_false, Bool.false_or, Bool.not_true, Bool.not_false, cond_true, cond_false, bI_t, bI_f, Bool.false_eq_true, Bool.true_eq_false, dayC_1, dayC_21, dayC_221, dayC_222, w01, wP, wPL, wP01, wL01, wRow, w01R, wAB, wNum, isP, isL]; done)
    refine A_iret dX9_stopped_27 rfl ⟨_, rfl, (by rw [ew]; exact rV_n (by decide)), _, (by rw [ew]; first | (rw [rS_0]; exact O0) | exact O0), O20, hf⟩
  · skip
    try simp only [bI_0, bI_n0, Classical.not_not, Bool.not_eq_false, Bool.true_and, Bool.and_true, decide_eq_true_eq, decide_eq_false_iff_not, dayC_1, dayC_21, dayC_221, dayC_222] at c8
    obtain ⟨k_p, rfl, hk_p⟩ := inN_ex c8 (by omega)
    have cl_p : (nI k_p).toNatClampNeg = k_p := nI_clamp (by omega)
    refine A_aload_n 12 dX9_stopped_11 rfl rfl rfl ?_
    refine A_getfield 15 dX9_stopped_12 rfl f_X9_10 O0 rfl ?_
    refine A_iload_n 16 dX9_stopped_15 rfl rfl rfl ?_
    refine A_callVI 19 (S_X8_isLaw X l (by first | assumption | decide | omega | exact Ne.symm (by assumption))) dX9_stopped_16 rfl kX8_isLaw lk_X9_111 rfl O1 (by decide) rfl (Nat.le_of_ble_eq_true rfl) (fun v_3 h_3 qh_3 => ?_)
    obtain ⟨rfl, rfl⟩ := qh_3
    refine A_if_ne 28 22 dX9_stopped_19 (by decide) rfl (fun c19 => ?_) (fun c19 => ?_)
    · skip
      try simp only [bI_0, bI_n0, Classical.not_not, Bool.not_eq_false, Bool.true_and, Bool.and_true, decide_eq_true_eq, decide_eq_false_iff_not, dayC_1, dayC_21, dayC_221, dayC_222] at c19
      obtain ⟨k_l0, rfl, hk_l0⟩ := inN_ex c19 (by omega)
      have cl_l0 : (nI k_l0).toNatClampNeg = k_l0 := nI_clamp (by omega)
      refine A_aload_n 29 dX9_stopped_28 rfl rfl rfl ?_
      refine A_getfield 32 dX9_stopped_29 rfl f_X9_61 O0 rfl ?_
      refine A_aload_n 33 dX9_stopped_32 rfl rfl rfl ?_
      refine A_getfield 36 dX9_stopped_33 rfl f_X9_10 O0 rfl ?_
      refine A_aload_n 37 dX9_stopped_36 rfl rfl rfl ?_
      refine A_getfield 40 dX9_stopped_37 rfl f_X9_10 O0 rfl ?_
      refine A_iload_n 41 dX9_stopped_40 rfl rfl rfl ?_
      refine A_callVI 44 (S_X8_pocketsOf X l (by first | assumption | decide | omega | exact Ne.symm (by assumption)) (by first | assumption | decide | omega | exact Ne.symm (by assumption))) dX9_stopped_41 rfl kX8_pocketsOf lk_X9_122 rfl O1 (by decide) rfl (Nat.le_of_ble_eq_true rfl) (fun v_4 h_4 qh_4 => ?_)
      obtain ⟨rfl, rfl⟩ := qh_4
      refine A_iconst 45 (1) dX9_stopped_44 rfl (by decide) ?_
      refine A_iload_n 46 dX9_stopped_45 rfl rfl rfl ?_
      refine A_ishl 47 dX9_stopped_46 rfl ?_
      refine A_callVI 50 (S_X6_fewestTaken X l (by first | assumption | decide | omega | exact Ne.symm (by assumption)) (by first | assumption | decide | omega | exact Ne.symm (by assumption)) (by first | assumption | decide | omega | exact Ne.symm (by assumption)) (by first | assumption | decide | omega | exact Ne.symm (by assumption))) dX9_stopped_47 rfl kX6_fewestTaken lk_X9_205 rfl O19 (by decide) rfl (Nat.le_of_ble_eq_true rfl) (fun v_5 h_5 qh_5 => ?_)
      obtain ⟨rfl, y1_5, n0h_5, eh_5⟩ := qh_5
      replace O0 := (eh_5 _ (by decide)).trans O0
      replace O1 := (eh_5 _ (by decide)).trans O1
      replace O19 := (eh_5 _ (by decide)).trans O19
      replace O20 := n0h_5
      replace hf : ∀ i, i ≠ 0 → i ≠ 20 → h_5 i = h i := fun i g0 g1 => (eh_5 i g1).trans (hf i g0 g1)
      have ew : wPL x (nI k_p) (nI k_l0) = 0 := by
        first | (simp only [c8, cl_p, c19, cl_l0, if_true, if_false, ite_true, ite_false, and_true, true_and, and_false, false_and, and_self, or_true, true_or, or_false, false_or, or_self, not_true_eq_false, not_false_eq_true, decide_true, decide_false, Bool.and_true, Bool.true_and, Bool.and_false, Bool.false_and, Bool.and_self, Bool.or_true, Bool.true_or, Bool.or_false, Bool.false_or, Bool.not_true, Bool.not_false, cond_true, cond_false, bI_t, bI_f, Bool.false_eq_true, Bool.true_eq_false, dayC_1, dayC_21, dayC_221, dayC_222, w01, wP, wPL, wP01, wL01, wRow, w01R, wAB, wNum, isP, isL]; done)
      refine A_iret dX9_stopped_50 rfl ⟨_, rfl, (by rw [ew, rV_0]; first | (simp only [c8, cl_p, c19, cl_l0, if_true, if_false, ite_true, ite_false, and_true, true_and, and_false, false_and, and_self, or_true, true_or, or_false, false_or, or_self, not_true_eq_false, not_false_eq_true, decide_true, decide_false, Bool.and_true, Bool.true_and, Bool.and_false, Bool.false_and, Bool.and_self, Bool.or_true, Bool.true_or, Bool.or_false, Bool.false_or, Bool.not_true, Bool.not_false, cond_true, cond_false, bI_t, bI_f, Bool.false_eq_true, Bool.true_eq_false, dayC_1, dayC_21, dayC_221, dayC_222, aStop, oneB, pk]; done) | (simp [aStop, oneB, pk, *]; done)), _, (by rw [ew]; first | (rw [rS_0]; exact O0) | exact O0), O20, hf⟩
    · skip
      try simp only [bI_0, bI_n0, Classical.not_not, Bool.not_eq_false, Bool.true_and, Bool.and_true, decide_eq_true_eq, decide_eq_false_iff_not, dayC_1, dayC_21, dayC_221, dayC_222] at c19
      refine A_aload_n 23 dX9_stopped_22 rfl rfl rfl ?_
      refine A_iconst 24 (-1) dX9_stopped_23 rfl (by decide) ?_
      refine A_callVI 27 (S_X9_refuse X l (by first | assumption | decide | omega | exact Ne.symm (by assumption)) (by first | assumption | (unfold CD; decide))) dX9_stopped_24 rfl kX9_refuse lk_X9_79 rfl O0 (by decide) rfl (Nat.le_of_ble_eq_true rfl) (fun v_6 h_6 qh_6 => ?_)
      obtain ⟨rfl, n0h_6, eh_6⟩ := qh_6
      replace O0 := n0h_6
      replace O1 := (eh_6 _ (by decide)).trans O1
      replace O19 := (eh_6 _ (by decide)).trans O19
      replace O20 := (eh_6 _ (by decide)).trans O20
      replace hf : ∀ i, i ≠ 0 → i ≠ 20 → h_6 i = h i := fun i g0 g1 => (eh_6 i g0).trans (hf i g0 g1)
      have ew : wPL x (nI k_p) l0 = -1 := by
        first | (simp only [c8, cl_p, c19, if_true, if_false, ite_true, ite_false, and_true, true_and, and_false, false_and, and_self, or_true, true_or, or_false, false_or, or_self, not_true_eq_false, not_false_eq_true, decide_true, decide_false, Bool.and_true, Bool.true_and, Bool.and_false, Bool.false_and, Bool.and_self, Bool.or_true, Bool.true_or, Bool.or_false, Bool.false_or, Bool.not_true, Bool.not_false, cond_true, cond_false, bI_t, bI_f, Bool.false_eq_true, Bool.true_eq_false, dayC_1, dayC_21, dayC_221, dayC_222, w01, wP, wPL, wP01, wL01, wRow, w01R, wAB, wNum, isP, isL]; done)
      refine A_iret dX9_stopped_27 rfl ⟨_, rfl, (by rw [ew]; exact rV_n (by decide)), _, (by rw [ew]; first | (rw [rS_0]; exact O0) | exact O0), O20, hf⟩
set_option maxHeartbeats 4000000 in
set_option maxRecDepth 100000 in
theorem S_X9_allStopped (X : En) (l : Launch) {h : Hp} {x : PW} {g : Int32} {r : FI} (O0 : h 0 = some (maB g r)) (O1 : h 1 = some (wB 1 x)) (hW : WOK x)  {y20 : PC} (O19 : h 19 = some (seB)) (O20 : h 20 = some (cB 20 y20)) {p s0 : Int32} : Ct X l mX9_allStopped [aR 0 0, aI p, aI s0] h (QI (fun vr h2 => (rV (wAllS x p s0) (aAllS x p s0)) = vr ∧ ∃ (z20 : PC), h2 (0) = some (maB g (rS (wAllS x p s0) r)) ∧ h2 (20) = some (cB 20 z20) ∧ ∀ i, i ≠ 0 → i ≠ 20 → h2 i = h i)) := by
  have hx := hW.1
  have hp := hW.2.1
  have h10 := hx.1
  have hf : ∀ i, i ≠ 0 → i ≠ 20 → h i = h i := fun _ _ _ => rfl
  refine Ct.intro [some (aR 0 0), some (aI p), some (aI s0)] (by decide +kernel) rfl (Nat.le_of_ble_eq_true rfl) ?_
  refine A_aload_n 1 dX9_allStopped_0 rfl rfl rfl ?_
  refine A_getfield 4 dX9_allStopped_1 rfl f_X9_10 O0 rfl ?_
  refine A_iload_n 5 dX9_allStopped_4 rfl rfl rfl ?_
  refine A_callVI 8 (S_X8_isPerson X l (by first | assumption | decide | omega | exact Ne.symm (by assumption))) dX9_allStopped_5 rfl kX8_isPerson lk_X9_119 rfl O1 (by decide) rfl (Nat.le_of_ble_eq_true rfl) (fun v_1 h_1 qh_1 => ?_)
  obtain ⟨rfl, rfl⟩ := qh_1
  refine A_if_ne 17 11 dX9_allStopped_8 (by decide) rfl (fun c8 => ?_) (fun c8 => ?_)
  · skip
    try simp only [bI_0, bI_n0, Classical.not_not, Bool.not_eq_false, Bool.true_and, Bool.and_true, decide_eq_true_eq, decide_eq_false_iff_not, dayC_1, dayC_21, dayC_221, dayC_222] at c8
    obtain ⟨k_p, rfl, hk_p⟩ := inN_ex c8 (by omega)
    have cl_p : (nI k_p).toNatClampNeg = k_p := nI_clamp (by omega)
    refine A_iload_n 18 dX9_allStopped_17 rfl rfl rfl ?_
    refine A_if_ge 28 21 dX9_allStopped_18 (by decide) rfl (fun c18 => ?_) (fun c18 => ?_)
    · skip
      try simp only [bI_0, bI_n0, Classical.not_not, Bool.not_eq_false, Bool.true_and, Bool.and_true, decide_eq_true_eq, decide_eq_false_iff_not, dayC_1, dayC_21, dayC_221, dayC_222] at c18
      have n18 := c18
      replace c18 := Int32.not_lt.mpr c18
      refine A_iload_n 29 dX9_allStopped_28 rfl rfl rfl ?_
      refine A_aload_n 30 dX9_allStopped_29 rfl rfl rfl ?_
      refine A_getfield 33 dX9_allStopped_30 rfl f_X9_10 O0 rfl ?_
      refine A_callVI 36 (S_X8_allLaws X l (by first | assumption | decide | omega | exact Ne.symm (by assumption))) dX9_allStopped_33 rfl kX8_allLaws lk_X9_208 rfl O1 (by decide) rfl (Nat.le_of_ble_eq_true rfl) (fun v_2 h_2 qh_2 => ?_)
      obtain ⟨rfl, rfl⟩ := qh_2
      refine A_icmp_le 46 39 dX9_allStopped_36 (by decide) rfl (fun c36 => ?_) (fun c36 => ?_)
      · skip
        try simp only [bI_0, bI_n0, Classical.not_not, Bool.not_eq_false, Bool.true_and, Bool.and_true, decide_eq_true_eq, decide_eq_false_iff_not, dayC_1, dayC_21, dayC_221, dayC_222] at c36
        have n36 := c36
        replace c36 := Int32.not_lt.mpr c36
        refine A_aload_n 47 dX9_allStopped_46 rfl rfl rfl ?_
        refine A_getfield 50 dX9_allStopped_47 rfl f_X9_61 O0 rfl ?_
        refine A_aload_n 51 dX9_allStopped_50 rfl rfl rfl ?_
        refine A_getfield 54 dX9_allStopped_51 rfl f_X9_10 O0 rfl ?_
        refine A_aload_n 55 dX9_allStopped_54 rfl rfl rfl ?_
        refine A_getfield 58 dX9_allStopped_55 rfl f_X9_10 O0 rfl ?_
        refine A_iload_n 59 dX9_allStopped_58 rfl rfl rfl ?_
        refine A_callVI 62 (S_X8_pocketsOf X l (by first | assumption | decide | omega | exact Ne.symm (by assumption)) (by first | assumption | decide | omega | exact Ne.symm (by assumption))) dX9_allStopped_59 rfl kX8_pocketsOf lk_X9_122 rfl O1 (by decide) rfl (Nat.le_of_ble_eq_true rfl) (fun v_3 h_3 qh_3 => ?_)
        obtain ⟨rfl, rfl⟩ := qh_3
        refine A_iload_n 63 dX9_allStopped_62 rfl rfl rfl ?_
        refine A_callVI 66 (S_X6_fewestTaken X l (by first | assumption | decide | omega | exact Ne.symm (by assumption)) (by first | assumption | decide | omega | exact Ne.symm (by assumption)) (by first | assumption | decide | omega | exact Ne.symm (by assumption)) (by first | assumption | decide | omega | exact Ne.symm (by assumption))) dX9_allStopped_63 rfl kX6_fewestTaken lk_X9_205 rfl O19 (by decide) rfl (Nat.le_of_ble_eq_true rfl) (fun v_4 h_4 qh_4 => ?_)
        obtain ⟨rfl, y1_4, n0h_4, eh_4⟩ := qh_4
        replace O0 := (eh_4 _ (by decide)).trans O0
        replace O1 := (eh_4 _ (by decide)).trans O1
        replace O19 := (eh_4 _ (by decide)).trans O19
        replace O20 := n0h_4
        replace hf : ∀ i, i ≠ 0 → i ≠ 20 → h_4 i = h i := fun i g0 g1 => (eh_4 i g1).trans (hf i g0 g1)
        have ew : wAllS x (nI k_p) s0 = 0 := by
          first | (simp only [c8, cl_p, c18, n18, c36, n36, if_true, if_false, ite_true, ite_false, and_true, true_and, and_false, false_and, and_self, or_true, true_or, or_false, false_or, or_self, not_true_eq_false, not_false_eq_true, decide_true, decide_false, Bool.and_true, Bool.true_and, Bool.and_false, Bool.false_and, Bool.and_self, Bool.or_true, Bool.true_or, Bool.or_false, Bool.false_or, Bool.not_true, Bool.not_false, cond_true, cond_false, bI_t, bI_f, Bool.false_eq_true, Bool.true_eq_false, dayC_1, dayC_21, dayC_221, dayC_222, wAllS, allL, w01, wP, wPL, wP01, wL01, wRow, w01R, wAB, wNum, isP, isL]; done)
        refine A_iret dX9_allStopped_66 rfl ⟨_, rfl, (by rw [ew, rV_0]; first | (simp only [c8, cl_p, c18, n18, c36, n36, if_true, if_false, ite_true, ite_false, and_true, true_and, and_false, false_and, and_self, or_true, true_or, or_false, false_or, or_self, not_true_eq_false, not_false_eq_true, decide_true, decide_false, Bool.and_true, Bool.true_and, Bool.and_false, Bool.false_and, Bool.and_self, Bool.or_true, Bool.true_or, Bool.or_false, Bool.false_or, Bool.not_true, Bool.not_false, cond_true, cond_false, bI_t, bI_f, Bool.false_eq_true, Bool.true_eq_false, dayC_1, dayC_21, dayC_221, dayC_222, aAllS, pk]; done) | (simp [aAllS, pk, *]; done)), _, (by rw [ew]; first | (rw [rS_0]; exact O0) | exact O0), O20, hf⟩
      · skip
        try simp only [bI_0, bI_n0, Classical.not_not, Bool.not_eq_false, Bool.true_and, Bool.and_true, decide_eq_true_eq, decide_eq_false_iff_not, dayC_1, dayC_21, dayC_221, dayC_222] at c36
        have n36 := c36
        replace c36 := Int32.not_le.mp c36
        refine A_aload_n 40 dX9_allStopped_39 rfl rfl rfl ?_
        refine A_bipush 42 (-6) dX9_allStopped_40 rfl (by decide) ?_
        refine A_callVI 45 (S_X9_refuse X l (by first | assumption | decide | omega | exact Ne.symm (by assumption)) (by first | assumption | (unfold CD; decide))) dX9_allStopped_42 rfl kX9_refuse lk_X9_79 rfl O0 (by decide) rfl (Nat.le_of_ble_eq_true rfl) (fun v_5 h_5 qh_5 => ?_)
        obtain ⟨rfl, n0h_5, eh_5⟩ := qh_5
        replace O0 := n0h_5
        replace O1 := (eh_5 _ (by decide)).trans O1
        replace O19 := (eh_5 _ (by decide)).trans O19
        replace O20 := (eh_5 _ (by decide)).trans O20
        replace hf : ∀ i, i ≠ 0 → i ≠ 20 → h_5 i = h i := fun i g0 g1 => (eh_5 i g0).trans (hf i g0 g1)
        have ew : wAllS x (nI k_p) s0 = -6 := by
          first | (simp only [c8, cl_p, c18, n18, c36, n36, if_true, if_false, ite_true, ite_false, and_true, true_and, and_false, false_and, and_self, or_true, true_or, or_false, false_or, or_self, not_true_eq_false, not_false_eq_true, decide_true, decide_false, Bool.and_true, Bool.true_and, Bool.and_false, Bool.false_and, Bool.and_self, Bool.or_true, Bool.true_or, Bool.or_false, Bool.false_or, Bool.not_true, Bool.not_false, cond_true, cond_false, bI_t, bI_f, Bool.false_eq_true, Bool.true_eq_false, dayC_1, dayC_21, dayC_221, dayC_222, wAllS, allL, w01, wP, wPL, wP01, wL01, wRow, w01R, wAB, wNum, isP, isL]; done)
        refine A_iret dX9_allStopped_45 rfl ⟨_, rfl, (by rw [ew]; exact rV_n (by decide)), _, (by rw [ew]; first | (rw [rS_0]; exact O0) | exact O0), O20, hf⟩
    · skip
      try simp only [bI_0, bI_n0, Classical.not_not, Bool.not_eq_false, Bool.true_and, Bool.and_true, decide_eq_true_eq, decide_eq_false_iff_not, dayC_1, dayC_21, dayC_221, dayC_222] at c18
      have n18 := c18
      replace c18 := Int32.not_le.mp c18
      refine A_aload_n 22 dX9_allStopped_21 rfl rfl rfl ?_
      refine A_bipush 24 (-4) dX9_allStopped_22 rfl (by decide) ?_
      refine A_callVI 27 (S_X9_refuse X l (by first | assumption | decide | omega | exact Ne.symm (by assumption)) (by first | assumption | (unfold CD; decide))) dX9_allStopped_24 rfl kX9_refuse lk_X9_79 rfl O0 (by decide) rfl (Nat.le_of_ble_eq_true rfl) (fun v_6 h_6 qh_6 => ?_)
      obtain ⟨rfl, n0h_6, eh_6⟩ := qh_6
      replace O0 := n0h_6
      replace O1 := (eh_6 _ (by decide)).trans O1
      replace O19 := (eh_6 _ (by decide)).trans O19
      replace O20 := (eh_6 _ (by decide)).trans O20
      replace hf : ∀ i, i ≠ 0 → i ≠ 20 → h_6 i = h i := fun i g0 g1 => (eh_6 i g0).trans (hf i g0 g1)
      have ew : wAllS x (nI k_p) s0 = -4 := by
        first | (simp only [c8, cl_p, c18, n18, if_true, if_false, ite_true, ite_false, and_true, true_and, and_false, false_and, and_self, or_true, true_or, or_false, false_or, or_self, not_true_eq_false, not_false_eq_true, decide_true, decide_false, Bool.and_true, Bool.true_and, Bool.and_false, Bool.false_and, Bool.and_self, Bool.or_true, Bool.true_or, Bool.or_false, Bool.false_or, Bool.not_true, Bool.not_false, cond_true, cond_false, bI_t, bI_f, Bool.false_eq_true, Bool.true_eq_false, dayC_1, dayC_21, dayC_221, dayC_222, wAllS, allL, w01, wP, wPL, wP01, wL01, wRow, w01R, wAB, wNum, isP, isL]; done)
      refine A_iret dX9_allStopped_27 rfl ⟨_, rfl, (by rw [ew]; exact rV_n (by decide)), _, (by rw [ew]; first | (rw [rS_0]; exact O0) | exact O0), O20, hf⟩
  · skip
    try simp only [bI_0, bI_n0, Classical.not_not, Bool.not_eq_false, Bool.true_and, Bool.and_true, decide_eq_true_eq, decide_eq_false_iff_not, dayC_1, dayC_21, dayC_221, dayC_222] at c8
    refine A_aload_n 12 dX9_allStopped_11 rfl rfl rfl ?_
    refine A_iconst 13 (-1) dX9_allStopped_12 rfl (by decide) ?_
    refine A_callVI 16 (S_X9_refuse X l (by first | assumption | decide | omega | exact Ne.symm (by assumption)) (by first | assumption | (unfold CD; decide))) dX9_allStopped_13 rfl kX9_refuse lk_X9_79 rfl O0 (by decide) rfl (Nat.le_of_ble_eq_true rfl) (fun v_7 h_7 qh_7 => ?_)
    obtain ⟨rfl, n0h_7, eh_7⟩ := qh_7
    replace O0 := n0h_7
    replace O1 := (eh_7 _ (by decide)).trans O1
    replace O19 := (eh_7 _ (by decide)).trans O19
    replace O20 := (eh_7 _ (by decide)).trans O20
    replace hf : ∀ i, i ≠ 0 → i ≠ 20 → h_7 i = h i := fun i g0 g1 => (eh_7 i g0).trans (hf i g0 g1)
    have ew : wAllS x p s0 = -1 := by
      first | (simp only [c8, if_true, if_false, ite_true, ite_false, and_true, true_and, and_false, false_and, and_self, or_true, true_or, or_false, false_or, or_self, not_true_eq_false, not_false_eq_true, decide_true, decide_false, Bool.and_true, Bool.true_and, Bool.and_false, Bool.false_and, Bool.and_self, Bool.or_true, Bool.true_or, Bool.or_false, Bool.false_or, Bool.not_true, Bool.not_false, cond_true, cond_false, bI_t, bI_f, Bool.false_eq_true, Bool.true_eq_false, dayC_1, dayC_21, dayC_221, dayC_222, wAllS, allL, w01, wP, wPL, wP01, wL01, wRow, w01R, wAB, wNum, isP, isL]; done)
    refine A_iret dX9_allStopped_16 rfl ⟨_, rfl, (by rw [ew]; exact rV_n (by decide)), _, (by rw [ew]; first | (rw [rS_0]; exact O0) | exact O0), O20, hf⟩
set_option maxHeartbeats 4000000 in
set_option maxRecDepth 100000 in
theorem S_X9_agrees (X : En) (l : Launch) {h : Hp} {x : PW} {g : Int32} {r : FI} (O0 : h 0 = some (maB g r)) (O1 : h 1 = some (wB 1 x)) (hW : WOK x)  {y20 : PC} (O19 : h 19 = some (seB)) (O20 : h 20 = some (cB 20 y20)) {p v : Int32} : Ct X l mX9_agrees [aR 0 0, aI p, aI v] h (QI (fun vr h2 => (rV (wP01 x p v) (aAgr x p v)) = vr ∧ ∃ (z20 : PC), h2 (0) = some (maB g (rS (wP01 x p v) r)) ∧ h2 (20) = some (cB 20 z20) ∧ ∀ i, i ≠ 0 → i ≠ 20 → h2 i = h i)) := by
  have hx := hW.1
  have hp := hW.2.1
  have h10 := hx.1
  have hf : ∀ i, i ≠ 0 → i ≠ 20 → h i = h i := fun _ _ _ => rfl
  refine Ct.intro [some (aR 0 0), some (aI p), some (aI v)] (by decide +kernel) rfl (Nat.le_of_ble_eq_true rfl) ?_
  refine A_aload_n 1 dX9_agrees_0 rfl rfl rfl ?_
  refine A_getfield 4 dX9_agrees_1 rfl f_X9_10 O0 rfl ?_
  refine A_iload_n 5 dX9_agrees_4 rfl rfl rfl ?_
  refine A_callVI 8 (S_X8_isPerson X l (by first | assumption | decide | omega | exact Ne.symm (by assumption))) dX9_agrees_5 rfl kX8_isPerson lk_X9_119 rfl O1 (by decide) rfl (Nat.le_of_ble_eq_true rfl) (fun v_1 h_1 qh_1 => ?_)
  obtain ⟨rfl, rfl⟩ := qh_1
  refine A_if_ne 17 11 dX9_agrees_8 (by decide) rfl (fun c8 => ?_) (fun c8 => ?_)
  · skip
    try simp only [bI_0, bI_n0, Classical.not_not, Bool.not_eq_false, Bool.true_and, Bool.and_true, decide_eq_true_eq, decide_eq_false_iff_not, dayC_1, dayC_21, dayC_221, dayC_222] at c8
    obtain ⟨k_p, rfl, hk_p⟩ := inN_ex c8 (by omega)
    have cl_p : (nI k_p).toNatClampNeg = k_p := nI_clamp (by omega)
    refine A_iload_n 18 dX9_agrees_17 rfl rfl rfl ?_
    refine A_callSI 21 (S_X9_isNot0or1 X l) dX9_agrees_18 rfl kX9_isNot0or1 lk_X9_174 rfl (by decide) rfl (Nat.le_of_ble_eq_true rfl) (fun v_2 h_2 qh_2 => ?_)
    obtain ⟨rfl, rfl⟩ := qh_2
    refine A_if_eq 31 24 dX9_agrees_21 (by decide) rfl (fun c21 => ?_) (fun c21 => ?_)
    · skip
      try simp only [bI_0, bI_n0, Classical.not_not, Bool.not_eq_false, Bool.true_and, Bool.and_true, decide_eq_true_eq, decide_eq_false_iff_not, dayC_1, dayC_21, dayC_221, dayC_222] at c21
      refine A_aload_n 32 dX9_agrees_31 rfl rfl rfl ?_
      refine A_getfield 35 dX9_agrees_32 rfl f_X9_61 O0 rfl ?_
      refine A_aload_n 36 dX9_agrees_35 rfl rfl rfl ?_
      refine A_getfield 39 dX9_agrees_36 rfl f_X9_10 O0 rfl ?_
      refine A_aload_n 40 dX9_agrees_39 rfl rfl rfl ?_
      refine A_getfield 43 dX9_agrees_40 rfl f_X9_10 O0 rfl ?_
      refine A_iload_n 44 dX9_agrees_43 rfl rfl rfl ?_
      refine A_callVI 47 (S_X8_pocketsOf X l (by first | assumption | decide | omega | exact Ne.symm (by assumption)) (by first | assumption | decide | omega | exact Ne.symm (by assumption))) dX9_agrees_44 rfl kX8_pocketsOf lk_X9_122 rfl O1 (by decide) rfl (Nat.le_of_ble_eq_true rfl) (fun v_3 h_3 qh_3 => ?_)
      obtain ⟨rfl, rfl⟩ := qh_3
      refine A_iload_n 48 dX9_agrees_47 rfl rfl rfl ?_
      refine A_callVI 51 (S_X6_agreeing X l (by first | assumption | decide | omega | exact Ne.symm (by assumption)) (by first | assumption | decide | omega | exact Ne.symm (by assumption)) (by first | assumption | decide | omega | exact Ne.symm (by assumption)) (by first | assumption | decide | omega | exact Ne.symm (by assumption))) dX9_agrees_48 rfl kX6_agreeing lk_X9_211 rfl O19 (by decide) rfl (Nat.le_of_ble_eq_true rfl) (fun v_4 h_4 qh_4 => ?_)
      obtain ⟨rfl, y1_4, n0h_4, eh_4⟩ := qh_4
      replace O0 := (eh_4 _ (by decide)).trans O0
      replace O1 := (eh_4 _ (by decide)).trans O1
      replace O19 := (eh_4 _ (by decide)).trans O19
      replace O20 := n0h_4
      replace hf : ∀ i, i ≠ 0 → i ≠ 20 → h_4 i = h i := fun i g0 g1 => (eh_4 i g1).trans (hf i g0 g1)
      have ew : wP01 x (nI k_p) v = 0 := by
        first | (simp only [c8, cl_p, c21, if_true, if_false, ite_true, ite_false, and_true, true_and, and_false, false_and, and_self, or_true, true_or, or_false, false_or, or_self, not_true_eq_false, not_false_eq_true, decide_true, decide_false, Bool.and_true, Bool.true_and, Bool.and_false, Bool.false_and, Bool.and_self, Bool.or_true, Bool.true_or, Bool.or_false, Bool.false_or, Bool.not_true, Bool.not_false, cond_true, cond_false, bI_t, bI_f, Bool.false_eq_true, Bool.true_eq_false, dayC_1, dayC_21, dayC_221, dayC_222, w01, wP, wPL, wP01, wL01, wRow, w01R, wAB, wNum, isP, isL]; done)
      refine A_iret dX9_agrees_51 rfl ⟨_, rfl, (by rw [ew, rV_0]; first | (simp only [c8, cl_p, c21, if_true, if_false, ite_true, ite_false, and_true, true_and, and_false, false_and, and_self, or_true, true_or, or_false, false_or, or_self, not_true_eq_false, not_false_eq_true, decide_true, decide_false, Bool.and_true, Bool.true_and, Bool.and_false, Bool.false_and, Bool.and_self, Bool.or_true, Bool.true_or, Bool.or_false, Bool.false_or, Bool.not_true, Bool.not_false, cond_true, cond_false, bI_t, bI_f, Bool.false_eq_true, Bool.true_eq_false, dayC_1, dayC_21, dayC_221, dayC_222, aAgr, pk]; done) | (simp [aAgr, pk, *]; done)), _, (by rw [ew]; first | (rw [rS_0]; exact O0) | exact O0), O20, hf⟩
    · skip
      try simp only [bI_0, bI_n0, Classical.not_not, Bool.not_eq_false, Bool.true_and, Bool.and_true, decide_eq_true_eq, decide_eq_false_iff_not, dayC_1, dayC_21, dayC_221, dayC_222] at c21
      refine A_aload_n 25 dX9_agrees_24 rfl rfl rfl ?_
      refine A_bipush 27 (-2) dX9_agrees_25 rfl (by decide) ?_
      refine A_callVI 30 (S_X9_refuse X l (by first | assumption | decide | omega | exact Ne.symm (by assumption)) (by first | assumption | (unfold CD; decide))) dX9_agrees_27 rfl kX9_refuse lk_X9_79 rfl O0 (by decide) rfl (Nat.le_of_ble_eq_true rfl) (fun v_5 h_5 qh_5 => ?_)
      obtain ⟨rfl, n0h_5, eh_5⟩ := qh_5
      replace O0 := n0h_5
      replace O1 := (eh_5 _ (by decide)).trans O1
      replace O19 := (eh_5 _ (by decide)).trans O19
      replace O20 := (eh_5 _ (by decide)).trans O20
      replace hf : ∀ i, i ≠ 0 → i ≠ 20 → h_5 i = h i := fun i g0 g1 => (eh_5 i g0).trans (hf i g0 g1)
      have ew : wP01 x (nI k_p) v = -2 := by
        first | (simp only [c8, cl_p, c21, if_true, if_false, ite_true, ite_false, and_true, true_and, and_false, false_and, and_self, or_true, true_or, or_false, false_or, or_self, not_true_eq_false, not_false_eq_true, decide_true, decide_false, Bool.and_true, Bool.true_and, Bool.and_false, Bool.false_and, Bool.and_self, Bool.or_true, Bool.true_or, Bool.or_false, Bool.false_or, Bool.not_true, Bool.not_false, cond_true, cond_false, bI_t, bI_f, Bool.false_eq_true, Bool.true_eq_false, dayC_1, dayC_21, dayC_221, dayC_222, w01, wP, wPL, wP01, wL01, wRow, w01R, wAB, wNum, isP, isL]; done)
      refine A_iret dX9_agrees_30 rfl ⟨_, rfl, (by rw [ew]; exact rV_n (by decide)), _, (by rw [ew]; first | (rw [rS_0]; exact O0) | exact O0), O20, hf⟩
  · skip
    try simp only [bI_0, bI_n0, Classical.not_not, Bool.not_eq_false, Bool.true_and, Bool.and_true, decide_eq_true_eq, decide_eq_false_iff_not, dayC_1, dayC_21, dayC_221, dayC_222] at c8
    refine A_aload_n 12 dX9_agrees_11 rfl rfl rfl ?_
    refine A_iconst 13 (-1) dX9_agrees_12 rfl (by decide) ?_
    refine A_callVI 16 (S_X9_refuse X l (by first | assumption | decide | omega | exact Ne.symm (by assumption)) (by first | assumption | (unfold CD; decide))) dX9_agrees_13 rfl kX9_refuse lk_X9_79 rfl O0 (by decide) rfl (Nat.le_of_ble_eq_true rfl) (fun v_6 h_6 qh_6 => ?_)
    obtain ⟨rfl, n0h_6, eh_6⟩ := qh_6
    replace O0 := n0h_6
    replace O1 := (eh_6 _ (by decide)).trans O1
    replace O19 := (eh_6 _ (by decide)).trans O19
    replace O20 := (eh_6 _ (by decide)).trans O20
    replace hf : ∀ i, i ≠ 0 → i ≠ 20 → h_6 i = h i := fun i g0 g1 => (eh_6 i g0).trans (hf i g0 g1)
    have ew : wP01 x p v = -1 := by
      first | (simp only [c8, if_true, if_false, ite_true, ite_false, and_true, true_and, and_false, false_and, and_self, or_true, true_or, or_false, false_or, or_self, not_true_eq_false, not_false_eq_true, decide_true, decide_false, Bool.and_true, Bool.true_and, Bool.and_false, Bool.false_and, Bool.and_self, Bool.or_true, Bool.true_or, Bool.or_false, Bool.false_or, Bool.not_true, Bool.not_false, cond_true, cond_false, bI_t, bI_f, Bool.false_eq_true, Bool.true_eq_false, dayC_1, dayC_21, dayC_221, dayC_222, w01, wP, wPL, wP01, wL01, wRow, w01R, wAB, wNum, isP, isL]; done)
    refine A_iret dX9_agrees_16 rfl ⟨_, rfl, (by rw [ew]; exact rV_n (by decide)), _, (by rw [ew]; first | (rw [rS_0]; exact O0) | exact O0), O20, hf⟩
set_option maxHeartbeats 4000000 in
set_option maxRecDepth 100000 in
theorem S_X9_bring (X : En) (l : Launch) {h : Hp} {x : PW} {g : Int32} {r : FI} (O0 : h 0 = some (maB g r)) (O1 : h 1 = some (wB 1 x)) (hW : WOK x)  {y20 : PC} (O19 : h 19 = some (seB)) (O20 : h 20 = some (cB 20 y20)) {p l0 : Int32} : Ct X l mX9_bring [aR 0 0, aI p, aI l0] h (QI (fun vr h2 => (rV (wPL x p l0) (aBring x p l0)) = vr ∧ ∃ (z20 : PC), h2 (0) = some (maB g (rS (wPL x p l0) r)) ∧ h2 (20) = some (cB 20 z20) ∧ ∀ i, i ≠ 0 → i ≠ 20 → h2 i = h i)) := by
  have hx := hW.1
  have hp := hW.2.1
  have h10 := hx.1
  have hf : ∀ i, i ≠ 0 → i ≠ 20 → h i = h i := fun _ _ _ => rfl
  refine Ct.intro [some (aR 0 0), some (aI p), some (aI l0)] (by decide +kernel) rfl (Nat.le_of_ble_eq_true rfl) ?_
  refine A_aload_n 1 dX9_bring_0 rfl rfl rfl ?_
  refine A_getfield 4 dX9_bring_1 rfl f_X9_10 O0 rfl ?_
  refine A_iload_n 5 dX9_bring_4 rfl rfl rfl ?_
  refine A_callVI 8 (S_X8_isPerson X l (by first | assumption | decide | omega | exact Ne.symm (by assumption))) dX9_bring_5 rfl kX8_isPerson lk_X9_119 rfl O1 (by decide) rfl (Nat.le_of_ble_eq_true rfl) (fun v_1 h_1 qh_1 => ?_)
  obtain ⟨rfl, rfl⟩ := qh_1
  refine A_if_eq 22 11 dX9_bring_8 (by decide) rfl (fun c8 => ?_) (fun c8 => ?_)
  · skip
    try simp only [bI_0, bI_n0, Classical.not_not, Bool.not_eq_false, Bool.true_and, Bool.and_true, decide_eq_true_eq, decide_eq_false_iff_not, dayC_1, dayC_21, dayC_221, dayC_222] at c8
    refine A_aload_n 23 dX9_bring_22 rfl rfl rfl ?_
    refine A_iconst 24 (-1) dX9_bring_23 rfl (by decide) ?_
    refine A_callVI 27 (S_X9_refuse X l (by first | assumption | decide | omega | exact Ne.symm (by assumption)) (by first | assumption | (unfold CD; decide))) dX9_bring_24 rfl kX9_refuse lk_X9_79 rfl O0 (by decide) rfl (Nat.le_of_ble_eq_true rfl) (fun v_2 h_2 qh_2 => ?_)
    obtain ⟨rfl, n0h_2, eh_2⟩ := qh_2
    replace O0 := n0h_2
    replace O1 := (eh_2 _ (by decide)).trans O1
    replace O19 := (eh_2 _ (by decide)).trans O19
    replace O20 := (eh_2 _ (by decide)).trans O20
    replace hf : ∀ i, i ≠ 0 → i ≠ 20 → h_2 i = h i := fun i g0 g1 => (eh_2 i g0).trans (hf i g0 g1)
    have ew : wPL x p l0 = -1 := by
      first | (simp only [c8, if_true, if_false, ite_true, ite_false, and_true, true_and, and_false, false_and, and_self, or_true, true_or, or_false, false_or, or_self, not_true_eq_false, not_false_eq_true, decide_true, decide_false, Bool.and_true, Bool.true_and, Bool.and_false, Bool.false_and, Bool.and_self, Bool.or_true, Bool.true_or, Bool.or_false, Bool.false_or, Bool.not_true, Bool.not_false, cond_true, cond_false, bI_t, bI_f, Bool.false_eq_true, Bool.true_eq_false, dayC_1, dayC_21, dayC_221, dayC_222, w01, wP, wPL, wP01, wL01, wRow, w01R, wAB, wNum, isP, isL]; done)
    refine A_iret dX9_bring_27 rfl ⟨_, rfl, (by rw [ew]; exact rV_n (by decide)), _, (by rw [ew]; first | (rw [rS_0]; exact O0) | exact O0), O20, hf⟩
  · skip
    try simp only [bI_0, bI_n0, Classical.not_not, Bool.not_eq_false, Bool.true_and, Bool.and_true, decide_eq_true_eq, decide_eq_false_iff_not, dayC_1, dayC_21, dayC_221, dayC_222] at c8
    obtain ⟨k_p, rfl, hk_p⟩ := inN_ex c8 (by omega)
    have cl_p : (nI k_p).toNatClampNeg = k_p := nI_clamp (by omega)
    refine A_aload_n 12 dX9_bring_11 rfl rfl rfl ?_
    refine A_getfield 15 dX9_bring_12 rfl f_X9_10 O0 rfl ?_
    refine A_iload_n 16 dX9_bring_15 rfl rfl rfl ?_
    refine A_callVI 19 (S_X8_isLaw X l (by first | assumption | decide | omega | exact Ne.symm (by assumption))) dX9_bring_16 rfl kX8_isLaw lk_X9_111 rfl O1 (by decide) rfl (Nat.le_of_ble_eq_true rfl) (fun v_3 h_3 qh_3 => ?_)
    obtain ⟨rfl, rfl⟩ := qh_3
    refine A_if_ne 28 22 dX9_bring_19 (by decide) rfl (fun c19 => ?_) (fun c19 => ?_)
    · skip
      try simp only [bI_0, bI_n0, Classical.not_not, Bool.not_eq_false, Bool.true_and, Bool.and_true, decide_eq_true_eq, decide_eq_false_iff_not, dayC_1, dayC_21, dayC_221, dayC_222] at c19
      obtain ⟨k_l0, rfl, hk_l0⟩ := inN_ex c19 (by omega)
      have cl_l0 : (nI k_l0).toNatClampNeg = k_l0 := nI_clamp (by omega)
      refine A_aload_n 29 dX9_bring_28 rfl rfl rfl ?_
      refine A_getfield 32 dX9_bring_29 rfl f_X9_61 O0 rfl ?_
      refine A_aload_n 33 dX9_bring_32 rfl rfl rfl ?_
      refine A_getfield 36 dX9_bring_33 rfl f_X9_10 O0 rfl ?_
      refine A_aload_n 37 dX9_bring_36 rfl rfl rfl ?_
      refine A_getfield 40 dX9_bring_37 rfl f_X9_10 O0 rfl ?_
      refine A_iload_n 41 dX9_bring_40 rfl rfl rfl ?_
      refine A_callVI 44 (S_X8_pocketsOf X l (by first | assumption | decide | omega | exact Ne.symm (by assumption)) (by first | assumption | decide | omega | exact Ne.symm (by assumption))) dX9_bring_41 rfl kX8_pocketsOf lk_X9_122 rfl O1 (by decide) rfl (Nat.le_of_ble_eq_true rfl) (fun v_4 h_4 qh_4 => ?_)
      obtain ⟨rfl, rfl⟩ := qh_4
      refine A_iload_n 45 dX9_bring_44 rfl rfl rfl ?_
      refine A_callVI 48 (S_X6_fewestBrought X l (by first | assumption | decide | omega | exact Ne.symm (by assumption)) (by first | assumption | decide | omega | exact Ne.symm (by assumption)) (by first | assumption | decide | omega | exact Ne.symm (by assumption)) (by first | assumption | decide | omega | exact Ne.symm (by assumption))) dX9_bring_45 rfl kX6_fewestBrought lk_X9_214 rfl O19 (by decide) rfl (Nat.le_of_ble_eq_true rfl) (fun v_5 h_5 qh_5 => ?_)
      obtain ⟨rfl, y1_5, n0h_5, eh_5⟩ := qh_5
      replace O0 := (eh_5 _ (by decide)).trans O0
      replace O1 := (eh_5 _ (by decide)).trans O1
      replace O19 := (eh_5 _ (by decide)).trans O19
      replace O20 := n0h_5
      replace hf : ∀ i, i ≠ 0 → i ≠ 20 → h_5 i = h i := fun i g0 g1 => (eh_5 i g1).trans (hf i g0 g1)
      have ew : wPL x (nI k_p) (nI k_l0) = 0 := by
        first | (simp only [c8, cl_p, c19, cl_l0, if_true, if_false, ite_true, ite_false, and_true, true_and, and_false, false_and, and_self, or_true, true_or, or_false, false_or, or_self, not_true_eq_false, not_false_eq_true, decide_true, decide_false, Bool.and_true, Bool.true_and, Bool.and_false, Bool.false_and, Bool.and_self, Bool.or_true, Bool.true_or, Bool.or_false, Bool.false_or, Bool.not_true, Bool.not_false, cond_true, cond_false, bI_t, bI_f, Bool.false_eq_true, Bool.true_eq_false, dayC_1, dayC_21, dayC_221, dayC_222, w01, wP, wPL, wP01, wL01, wRow, w01R, wAB, wNum, isP, isL]; done)
      refine A_iret dX9_bring_48 rfl ⟨_, rfl, (by rw [ew, rV_0]; first | (simp only [c8, cl_p, c19, cl_l0, if_true, if_false, ite_true, ite_false, and_true, true_and, and_false, false_and, and_self, or_true, true_or, or_false, false_or, or_self, not_true_eq_false, not_false_eq_true, decide_true, decide_false, Bool.and_true, Bool.true_and, Bool.and_false, Bool.false_and, Bool.and_self, Bool.or_true, Bool.true_or, Bool.or_false, Bool.false_or, Bool.not_true, Bool.not_false, cond_true, cond_false, bI_t, bI_f, Bool.false_eq_true, Bool.true_eq_false, dayC_1, dayC_21, dayC_221, dayC_222, aBring, pk]; done) | (simp [aBring, pk, *]; done)), _, (by rw [ew]; first | (rw [rS_0]; exact O0) | exact O0), O20, hf⟩
    · skip
      try simp only [bI_0, bI_n0, Classical.not_not, Bool.not_eq_false, Bool.true_and, Bool.and_true, decide_eq_true_eq, decide_eq_false_iff_not, dayC_1, dayC_21, dayC_221, dayC_222] at c19
      refine A_aload_n 23 dX9_bring_22 rfl rfl rfl ?_
      refine A_iconst 24 (-1) dX9_bring_23 rfl (by decide) ?_
      refine A_callVI 27 (S_X9_refuse X l (by first | assumption | decide | omega | exact Ne.symm (by assumption)) (by first | assumption | (unfold CD; decide))) dX9_bring_24 rfl kX9_refuse lk_X9_79 rfl O0 (by decide) rfl (Nat.le_of_ble_eq_true rfl) (fun v_6 h_6 qh_6 => ?_)
      obtain ⟨rfl, n0h_6, eh_6⟩ := qh_6
      replace O0 := n0h_6
      replace O1 := (eh_6 _ (by decide)).trans O1
      replace O19 := (eh_6 _ (by decide)).trans O19
      replace O20 := (eh_6 _ (by decide)).trans O20
      replace hf : ∀ i, i ≠ 0 → i ≠ 20 → h_6 i = h i := fun i g0 g1 => (eh_6 i g0).trans (hf i g0 g1)
      have ew : wPL x (nI k_p) l0 = -1 := by
        first | (simp only [c8, cl_p, c19, if_true, if_false, ite_true, ite_false, and_true, true_and, and_false, false_and, and_self, or_true, true_or, or_false, false_or, or_self, not_true_eq_false, not_false_eq_true, decide_true, decide_false, Bool.and_true, Bool.true_and, Bool.and_false, Bool.false_and, Bool.and_self, Bool.or_true, Bool.true_or, Bool.or_false, Bool.false_or, Bool.not_true, Bool.not_false, cond_true, cond_false, bI_t, bI_f, Bool.false_eq_true, Bool.true_eq_false, dayC_1, dayC_21, dayC_221, dayC_222, w01, wP, wPL, wP01, wL01, wRow, w01R, wAB, wNum, isP, isL]; done)
      refine A_iret dX9_bring_27 rfl ⟨_, rfl, (by rw [ew]; exact rV_n (by decide)), _, (by rw [ew]; first | (rw [rS_0]; exact O0) | exact O0), O20, hf⟩
set_option maxHeartbeats 4000000 in
set_option maxRecDepth 100000 in
theorem S_X9_guard (X : En) (l : Launch) {h : Hp} {x : PW} {g : Int32} {r : FI} (O0 : h 0 = some (maB g r)) (O1 : h 1 = some (wB 1 x)) (hW : WOK x)  {y22 : PC} (O21 : h 21 = some (alB)) (O22 : h 22 = some (cB 22 y22)) {p v : Int32} : Ct X l mX9_guard [aR 0 0, aI p, aI v] h (QI (fun vr h2 => (rV (wP01 x p v) (aGuard x p v)) = vr ∧ ∃ (z22 : PC), h2 (0) = some (maB g (rS (wP01 x p v) r)) ∧ h2 (22) = some (cB 22 z22) ∧ ∀ i, i ≠ 0 → i ≠ 22 → h2 i = h i)) := by
  have hx := hW.1
  have hp := hW.2.1
  have h10 := hx.1
  have hf : ∀ i, i ≠ 0 → i ≠ 22 → h i = h i := fun _ _ _ => rfl
  refine Ct.intro [some (aR 0 0), some (aI p), some (aI v)] (by decide +kernel) rfl (Nat.le_of_ble_eq_true rfl) ?_
  refine A_aload_n 1 dX9_guard_0 rfl rfl rfl ?_
  refine A_getfield 4 dX9_guard_1 rfl f_X9_10 O0 rfl ?_
  refine A_iload_n 5 dX9_guard_4 rfl rfl rfl ?_
  refine A_callVI 8 (S_X8_isPerson X l (by first | assumption | decide | omega | exact Ne.symm (by assumption))) dX9_guard_5 rfl kX8_isPerson lk_X9_119 rfl O1 (by decide) rfl (Nat.le_of_ble_eq_true rfl) (fun v_1 h_1 qh_1 => ?_)
  obtain ⟨rfl, rfl⟩ := qh_1
  refine A_if_ne 17 11 dX9_guard_8 (by decide) rfl (fun c8 => ?_) (fun c8 => ?_)
  · skip
    try simp only [bI_0, bI_n0, Classical.not_not, Bool.not_eq_false, Bool.true_and, Bool.and_true, decide_eq_true_eq, decide_eq_false_iff_not, dayC_1, dayC_21, dayC_221, dayC_222] at c8
    obtain ⟨k_p, rfl, hk_p⟩ := inN_ex c8 (by omega)
    have cl_p : (nI k_p).toNatClampNeg = k_p := nI_clamp (by omega)
    refine A_iload_n 18 dX9_guard_17 rfl rfl rfl ?_
    refine A_callSI 21 (S_X9_isNot0or1 X l) dX9_guard_18 rfl kX9_isNot0or1 lk_X9_174 rfl (by decide) rfl (Nat.le_of_ble_eq_true rfl) (fun v_2 h_2 qh_2 => ?_)
    obtain ⟨rfl, rfl⟩ := qh_2
    refine A_if_eq 31 24 dX9_guard_21 (by decide) rfl (fun c21 => ?_) (fun c21 => ?_)
    · skip
      try simp only [bI_0, bI_n0, Classical.not_not, Bool.not_eq_false, Bool.true_and, Bool.and_true, decide_eq_true_eq, decide_eq_false_iff_not, dayC_1, dayC_21, dayC_221, dayC_222] at c21
      refine A_aload_n 32 dX9_guard_31 rfl rfl rfl ?_
      refine A_getfield 35 dX9_guard_32 rfl f_X9_68 O0 rfl ?_
      refine A_aload_n 36 dX9_guard_35 rfl rfl rfl ?_
      refine A_getfield 39 dX9_guard_36 rfl f_X9_10 O0 rfl ?_
      refine A_aload_n 40 dX9_guard_39 rfl rfl rfl ?_
      refine A_getfield 43 dX9_guard_40 rfl f_X9_10 O0 rfl ?_
      refine A_iload_n 44 dX9_guard_43 rfl rfl rfl ?_
      refine A_callVI 47 (S_X8_pocketsOf X l (by first | assumption | decide | omega | exact Ne.symm (by assumption)) (by first | assumption | decide | omega | exact Ne.symm (by assumption))) dX9_guard_44 rfl kX8_pocketsOf lk_X9_122 rfl O1 (by decide) rfl (Nat.le_of_ble_eq_true rfl) (fun v_3 h_3 qh_3 => ?_)
      obtain ⟨rfl, rfl⟩ := qh_3
      refine A_iload_n 48 dX9_guard_47 rfl rfl rfl ?_
      refine A_callVI 51 (S_X0_guarded X l (by first | assumption | decide | omega | exact Ne.symm (by assumption)) (by first | assumption | decide | omega | exact Ne.symm (by assumption)) (by first | assumption | decide | omega | exact Ne.symm (by assumption)) (by first | assumption | decide | omega | exact Ne.symm (by assumption))) dX9_guard_48 rfl kX0_guarded lk_X9_268 rfl O21 (by decide) rfl (Nat.le_of_ble_eq_true rfl) (fun v_4 h_4 qh_4 => ?_)
      obtain ⟨rfl, y1_4, n0h_4, eh_4⟩ := qh_4
      replace O0 := (eh_4 _ (by decide)).trans O0
      replace O1 := (eh_4 _ (by decide)).trans O1
      replace O21 := (eh_4 _ (by decide)).trans O21
      replace O22 := n0h_4
      replace hf : ∀ i, i ≠ 0 → i ≠ 22 → h_4 i = h i := fun i g0 g1 => (eh_4 i g1).trans (hf i g0 g1)
      have ew : wP01 x (nI k_p) v = 0 := by
        first | (simp only [c8, cl_p, c21, if_true, if_false, ite_true, ite_false, and_true, true_and, and_false, false_and, and_self, or_true, true_or, or_false, false_or, or_self, not_true_eq_false, not_false_eq_true, decide_true, decide_false, Bool.and_true, Bool.true_and, Bool.and_false, Bool.false_and, Bool.and_self, Bool.or_true, Bool.true_or, Bool.or_false, Bool.false_or, Bool.not_true, Bool.not_false, cond_true, cond_false, bI_t, bI_f, Bool.false_eq_true, Bool.true_eq_false, dayC_1, dayC_21, dayC_221, dayC_222, w01, wP, wPL, wP01, wL01, wRow, w01R, wAB, wNum, isP, isL]; done)
      refine A_iret dX9_guard_51 rfl ⟨_, rfl, (by rw [ew, rV_0]; first | (simp only [c8, cl_p, c21, if_true, if_false, ite_true, ite_false, and_true, true_and, and_false, false_and, and_self, or_true, true_or, or_false, false_or, or_self, not_true_eq_false, not_false_eq_true, decide_true, decide_false, Bool.and_true, Bool.true_and, Bool.and_false, Bool.false_and, Bool.and_self, Bool.or_true, Bool.true_or, Bool.or_false, Bool.false_or, Bool.not_true, Bool.not_false, cond_true, cond_false, bI_t, bI_f, Bool.false_eq_true, Bool.true_eq_false, dayC_1, dayC_21, dayC_221, dayC_222, aGuard, pk]; done) | (simp [aGuard, pk, *]; done)), _, (by rw [ew]; first | (rw [rS_0]; exact O0) | exact O0), O22, hf⟩
    · skip
      try simp only [bI_0, bI_n0, Classical.not_not, Bool.not_eq_false, Bool.true_and, Bool.and_true, decide_eq_true_eq, decide_eq_false_iff_not, dayC_1, dayC_21, dayC_221, dayC_222] at c21
      refine A_aload_n 25 dX9_guard_24 rfl rfl rfl ?_
      refine A_bipush 27 (-2) dX9_guard_25 rfl (by decide) ?_
      refine A_callVI 30 (S_X9_refuse X l (by first | assumption | decide | omega | exact Ne.symm (by assumption)) (by first | assumption | (unfold CD; decide))) dX9_guard_27 rfl kX9_refuse lk_X9_79 rfl O0 (by decide) rfl (Nat.le_of_ble_eq_true rfl) (fun v_5 h_5 qh_5 => ?_)
      obtain ⟨rfl, n0h_5, eh_5⟩ := qh_5
      replace O0 := n0h_5
      replace O1 := (eh_5 _ (by decide)).trans O1
      replace O21 := (eh_5 _ (by decide)).trans O21
      replace O22 := (eh_5 _ (by decide)).trans O22
      replace hf : ∀ i, i ≠ 0 → i ≠ 22 → h_5 i = h i := fun i g0 g1 => (eh_5 i g0).trans (hf i g0 g1)
      have ew : wP01 x (nI k_p) v = -2 := by
        first | (simp only [c8, cl_p, c21, if_true, if_false, ite_true, ite_false, and_true, true_and, and_false, false_and, and_self, or_true, true_or, or_false, false_or, or_self, not_true_eq_false, not_false_eq_true, decide_true, decide_false, Bool.and_true, Bool.true_and, Bool.and_false, Bool.false_and, Bool.and_self, Bool.or_true, Bool.true_or, Bool.or_false, Bool.false_or, Bool.not_true, Bool.not_false, cond_true, cond_false, bI_t, bI_f, Bool.false_eq_true, Bool.true_eq_false, dayC_1, dayC_21, dayC_221, dayC_222, w01, wP, wPL, wP01, wL01, wRow, w01R, wAB, wNum, isP, isL]; done)
      refine A_iret dX9_guard_30 rfl ⟨_, rfl, (by rw [ew]; exact rV_n (by decide)), _, (by rw [ew]; first | (rw [rS_0]; exact O0) | exact O0), O22, hf⟩
  · skip
    try simp only [bI_0, bI_n0, Classical.not_not, Bool.not_eq_false, Bool.true_and, Bool.and_true, decide_eq_true_eq, decide_eq_false_iff_not, dayC_1, dayC_21, dayC_221, dayC_222] at c8
    refine A_aload_n 12 dX9_guard_11 rfl rfl rfl ?_
    refine A_iconst 13 (-1) dX9_guard_12 rfl (by decide) ?_
    refine A_callVI 16 (S_X9_refuse X l (by first | assumption | decide | omega | exact Ne.symm (by assumption)) (by first | assumption | (unfold CD; decide))) dX9_guard_13 rfl kX9_refuse lk_X9_79 rfl O0 (by decide) rfl (Nat.le_of_ble_eq_true rfl) (fun v_6 h_6 qh_6 => ?_)
    obtain ⟨rfl, n0h_6, eh_6⟩ := qh_6
    replace O0 := n0h_6
    replace O1 := (eh_6 _ (by decide)).trans O1
    replace O21 := (eh_6 _ (by decide)).trans O21
    replace O22 := (eh_6 _ (by decide)).trans O22
    replace hf : ∀ i, i ≠ 0 → i ≠ 22 → h_6 i = h i := fun i g0 g1 => (eh_6 i g0).trans (hf i g0 g1)
    have ew : wP01 x p v = -1 := by
      first | (simp only [c8, if_true, if_false, ite_true, ite_false, and_true, true_and, and_false, false_and, and_self, or_true, true_or, or_false, false_or, or_self, not_true_eq_false, not_false_eq_true, decide_true, decide_false, Bool.and_true, Bool.true_and, Bool.and_false, Bool.false_and, Bool.and_self, Bool.or_true, Bool.true_or, Bool.or_false, Bool.false_or, Bool.not_true, Bool.not_false, cond_true, cond_false, bI_t, bI_f, Bool.false_eq_true, Bool.true_eq_false, dayC_1, dayC_21, dayC_221, dayC_222, w01, wP, wPL, wP01, wL01, wRow, w01R, wAB, wNum, isP, isL]; done)
    refine A_iret dX9_guard_16 rfl ⟨_, rfl, (by rw [ew]; exact rV_n (by decide)), _, (by rw [ew]; first | (rw [rS_0]; exact O0) | exact O0), O22, hf⟩
set_option maxHeartbeats 4000000 in
set_option maxRecDepth 100000 in
theorem S_X9_idle (X : En) (l : Launch) {h : Hp} {x : PW} {g : Int32} {r : FI} (O0 : h 0 = some (maB g r)) (O1 : h 1 = some (wB 1 x)) (hW : WOK x)  {y16 : PC} (O16 : h 16 = some (cB 16 y16)) {p v : Int32} : Ct X l mX9_idle [aR 0 0, aI p, aI v] h (QI (fun vr h2 => (rV (wP01 x p v) (aIdle x p v)) = vr ∧ ∃ (z16 : PC), h2 (0) = some (maB g (rS (wP01 x p v) r)) ∧ h2 (16) = some (cB 16 z16) ∧ ∀ i, i ≠ 0 → i ≠ 16 → h2 i = h i)) := by
  have hx := hW.1
  have hp := hW.2.1
  have h10 := hx.1
  have hf : ∀ i, i ≠ 0 → i ≠ 16 → h i = h i := fun _ _ _ => rfl
  refine Ct.intro [some (aR 0 0), some (aI p), some (aI v)] (by decide +kernel) rfl (Nat.le_of_ble_eq_true rfl) ?_
  refine A_aload_n 1 dX9_idle_0 rfl rfl rfl ?_
  refine A_getfield 4 dX9_idle_1 rfl f_X9_10 O0 rfl ?_
  refine A_iload_n 5 dX9_idle_4 rfl rfl rfl ?_
  refine A_callVI 8 (S_X8_isPerson X l (by first | assumption | decide | omega | exact Ne.symm (by assumption))) dX9_idle_5 rfl kX8_isPerson lk_X9_119 rfl O1 (by decide) rfl (Nat.le_of_ble_eq_true rfl) (fun v_1 h_1 qh_1 => ?_)
  obtain ⟨rfl, rfl⟩ := qh_1
  refine A_if_ne 17 11 dX9_idle_8 (by decide) rfl (fun c8 => ?_) (fun c8 => ?_)
  · skip
    try simp only [bI_0, bI_n0, Classical.not_not, Bool.not_eq_false, Bool.true_and, Bool.and_true, decide_eq_true_eq, decide_eq_false_iff_not, dayC_1, dayC_21, dayC_221, dayC_222] at c8
    obtain ⟨k_p, rfl, hk_p⟩ := inN_ex c8 (by omega)
    have cl_p : (nI k_p).toNatClampNeg = k_p := nI_clamp (by omega)
    refine A_iload_n 18 dX9_idle_17 rfl rfl rfl ?_
    refine A_callSI 21 (S_X9_isNot0or1 X l) dX9_idle_18 rfl kX9_isNot0or1 lk_X9_174 rfl (by decide) rfl (Nat.le_of_ble_eq_true rfl) (fun v_2 h_2 qh_2 => ?_)
    obtain ⟨rfl, rfl⟩ := qh_2
    refine A_if_eq 31 24 dX9_idle_21 (by decide) rfl (fun c21 => ?_) (fun c21 => ?_)
    · skip
      try simp only [bI_0, bI_n0, Classical.not_not, Bool.not_eq_false, Bool.true_and, Bool.and_true, decide_eq_true_eq, decide_eq_false_iff_not, dayC_1, dayC_21, dayC_221, dayC_222] at c21
      refine A_aload_n 32 dX9_idle_31 rfl rfl rfl ?_
      refine A_iload_n 33 dX9_idle_32 rfl rfl rfl ?_
      refine A_callVV 36 (S_X9_goThrough X l (by first | assumption | decide | omega | exact Ne.symm (by assumption)) (by first | assumption | decide | omega | exact Ne.symm (by assumption)) (by first | assumption | decide | omega | exact Ne.symm (by assumption)) (by first | assumption | decide | omega | exact Ne.symm (by assumption)) (by first | assumption | decide | omega | exact Ne.symm (by assumption))) dX9_idle_33 rfl kX9_goThrough lk_X9_177 rfl O0 (by decide) rfl (Nat.le_of_ble_eq_true rfl) (fun h_3 qh_3 => ?_)
      obtain ⟨n0h_3, eh_3⟩ := qh_3
      replace O0 := (eh_3 _ (by decide)).trans O0
      replace O1 := (eh_3 _ (by decide)).trans O1
      replace O16 := n0h_3
      replace hf : ∀ i, i ≠ 0 → i ≠ 16 → h_3 i = h i := fun i g0 g1 => (eh_3 i g1).trans (hf i g0 g1)
      refine A_iload_n 37 dX9_idle_36 rfl rfl rfl ?_
      refine A_if_ne 56 40 dX9_idle_37 (by decide) rfl (fun c37 => ?_) (fun c37 => ?_)
      · skip
        try simp only [bI_0, bI_n0, Classical.not_not, Bool.not_eq_false, Bool.true_and, Bool.and_true, decide_eq_true_eq, decide_eq_false_iff_not, dayC_1, dayC_21, dayC_221, dayC_222] at c37
        refine A_aload_n 57 dX9_idle_56 rfl rfl rfl ?_
        refine A_getfield 60 dX9_idle_57 rfl f_X9_47 O0 rfl ?_
        refine A_callVI 63 (S_X1_firstIdle X l (by first | assumption | decide | omega | exact Ne.symm (by assumption))) dX9_idle_60 rfl kX1_firstIdle lk_X9_282 rfl O16 (by decide) rfl (Nat.le_of_ble_eq_true rfl) (fun v_4 h_4 qh_4 => ?_)
        obtain ⟨rfl, rfl⟩ := qh_4
        have ew : wP01 x (nI k_p) v = 0 := by
          first | (simp only [c8, cl_p, c21, c37, if_true, if_false, ite_true, ite_false, and_true, true_and, and_false, false_and, and_self, or_true, true_or, or_false, false_or, or_self, not_true_eq_false, not_false_eq_true, decide_true, decide_false, Bool.and_true, Bool.true_and, Bool.and_false, Bool.false_and, Bool.and_self, Bool.or_true, Bool.true_or, Bool.or_false, Bool.false_or, Bool.not_true, Bool.not_false, cond_true, cond_false, bI_t, bI_f, Bool.false_eq_true, Bool.true_eq_false, dayC_1, dayC_21, dayC_221, dayC_222, w01, wP, wPL, wP01, wL01, wRow, w01R, wAB, wNum, isP, isL]; done)
        refine A_iret dX9_idle_63 rfl ⟨_, rfl, (by rw [ew, rV_0]; first | (simp only [c8, cl_p, c21, c37, if_true, if_false, ite_true, ite_false, and_true, true_and, and_false, false_and, and_self, or_true, true_or, or_false, false_or, or_self, not_true_eq_false, not_false_eq_true, decide_true, decide_false, Bool.and_true, Bool.true_and, Bool.and_false, Bool.false_and, Bool.and_self, Bool.or_true, Bool.true_or, Bool.or_false, Bool.false_or, Bool.not_true, Bool.not_false, cond_true, cond_false, bI_t, bI_f, Bool.false_eq_true, Bool.true_eq_false, dayC_1, dayC_21, dayC_221, dayC_222, aIdle, pk]; done) | (simp [aIdle, pk, *]; done)), _, (by rw [ew]; first | (rw [rS_0]; exact O0) | exact O0), O16, hf⟩
      · skip
        try simp only [bI_0, bI_n0, Classical.not_not, Bool.not_eq_false, Bool.true_and, Bool.and_true, decide_eq_true_eq, decide_eq_false_iff_not, dayC_1, dayC_21, dayC_221, dayC_222] at c37
        refine A_bipush 42 (12) dX9_idle_40 rfl (by decide) ?_
        refine A_aload_n 43 dX9_idle_42 rfl rfl rfl ?_
        refine A_getfield 46 dX9_idle_43 rfl f_X9_47 O0 rfl ?_
        refine A_callVI 49 (S_X1_lawsDone X l (by first | assumption | decide | omega | exact Ne.symm (by assumption))) dX9_idle_46 rfl kX1_lawsDone lk_X9_187 rfl O16 (by decide) rfl (Nat.le_of_ble_eq_true rfl) (fun v_5 h_5 qh_5 => ?_)
        obtain ⟨rfl, rfl⟩ := qh_5
        refine A_callSI 52 (S_J6_bitCount_0f7a4 X l) dX9_idle_49 rfl kJ6_bitCount_0f7a4 lk_X9_190 rfl (by decide) rfl (Nat.le_of_ble_eq_true rfl) (fun v_6 h_6 qh_6 => ?_)
        obtain ⟨rfl, rfl⟩ := qh_6
        refine A_isub 53 dX9_idle_52 rfl ?_
        refine A_goto 63 dX9_idle_53 (by decide) ?_
        have ew : wP01 x (nI k_p) v = 0 := by
          first | (simp only [c8, cl_p, c21, c37, if_true, if_false, ite_true, ite_false, and_true, true_and, and_false, false_and, and_self, or_true, true_or, or_false, false_or, or_self, not_true_eq_false, not_false_eq_true, decide_true, decide_false, Bool.and_true, Bool.true_and, Bool.and_false, Bool.false_and, Bool.and_self, Bool.or_true, Bool.true_or, Bool.or_false, Bool.false_or, Bool.not_true, Bool.not_false, cond_true, cond_false, bI_t, bI_f, Bool.false_eq_true, Bool.true_eq_false, dayC_1, dayC_21, dayC_221, dayC_222, w01, wP, wPL, wP01, wL01, wRow, w01R, wAB, wNum, isP, isL]; done) | (simp only [c8, cl_p, c21, eq_true c37, if_true, if_false, ite_true, ite_false, and_true, true_and, and_false, false_and, and_self, or_true, true_or, or_false, false_or, or_self, not_true_eq_false, not_false_eq_true, decide_true, decide_false, Bool.and_true, Bool.true_and, Bool.and_false, Bool.false_and, Bool.and_self, Bool.or_true, Bool.true_or, Bool.or_false, Bool.false_or, Bool.not_true, Bool.not_false, cond_true, cond_false, bI_t, bI_f, Bool.false_eq_true, Bool.true_eq_false, dayC_1, dayC_21, dayC_221, dayC_222, w01, wP, wPL, wP01, wL01, wRow, w01R, wAB, wNum, isP, isL]; done)
        refine A_iret dX9_idle_63 rfl ⟨_, rfl, (by rw [ew, rV_0]; first | (simp only [c8, cl_p, c21, c37, if_true, if_false, ite_true, ite_false, and_true, true_and, and_false, false_and, and_self, or_true, true_or, or_false, false_or, or_self, not_true_eq_false, not_false_eq_true, decide_true, decide_false, Bool.and_true, Bool.true_and, Bool.and_false, Bool.false_and, Bool.and_self, Bool.or_true, Bool.true_or, Bool.or_false, Bool.false_or, Bool.not_true, Bool.not_false, cond_true, cond_false, bI_t, bI_f, Bool.false_eq_true, Bool.true_eq_false, dayC_1, dayC_21, dayC_221, dayC_222, aIdle, pk]; done) | (simp only [c8, cl_p, c21, eq_true c37, if_true, if_false, ite_true, ite_false, and_true, true_and, and_false, false_and, and_self, or_true, true_or, or_false, false_or, or_self, not_true_eq_false, not_false_eq_true, decide_true, decide_false, Bool.and_true, Bool.true_and, Bool.and_false, Bool.false_and, Bool.and_self, Bool.or_true, Bool.true_or, Bool.or_false, Bool.false_or, Bool.not_true, Bool.not_false, cond_true, cond_false, bI_t, bI_f, Bool.false_eq_true, Bool.true_eq_false, dayC_1, dayC_21, dayC_221, dayC_222, aIdle, pk]; done) | (simp [aIdle, pk, *]; done)), _, (by rw [ew]; first | (rw [rS_0]; exact O0) | exact O0), O16, hf⟩
    · skip
      try simp only [bI_0, bI_n0, Classical.not_not, Bool.not_eq_false, Bool.true_and, Bool.and_true, decide_eq_true_eq, decide_eq_false_iff_not, dayC_1, dayC_21, dayC_221, dayC_222] at c21
      refine A_aload_n 25 dX9_idle_24 rfl rfl rfl ?_
      refine A_bipush 27 (-2) dX9_idle_25 rfl (by decide) ?_
      refine A_callVI 30 (S_X9_refuse X l (by first | assumption | decide | omega | exact Ne.symm (by assumption)) (by first | assumption | (unfold CD; decide))) dX9_idle_27 rfl kX9_refuse lk_X9_79 rfl O0 (by decide) rfl (Nat.le_of_ble_eq_true rfl) (fun v_7 h_7 qh_7 => ?_)
      obtain ⟨rfl, n0h_7, eh_7⟩ := qh_7
      replace O0 := n0h_7
      replace O1 := (eh_7 _ (by decide)).trans O1
      replace O16 := (eh_7 _ (by decide)).trans O16
      replace hf : ∀ i, i ≠ 0 → i ≠ 16 → h_7 i = h i := fun i g0 g1 => (eh_7 i g0).trans (hf i g0 g1)
      have ew : wP01 x (nI k_p) v = -2 := by
        first | (simp only [c8, cl_p, c21, if_true, if_false, ite_true, ite_false, and_true, true_and, and_false, false_and, and_self, or_true, true_or, or_false, false_or, or_self, not_true_eq_false, not_false_eq_true, decide_true, decide_false, Bool.and_true, Bool.true_and, Bool.and_false, Bool.false_and, Bool.and_self, Bool.or_true, Bool.true_or, Bool.or_false, Bool.false_or, Bool.not_true, Bool.not_false, cond_true, cond_false, bI_t, bI_f, Bool.false_eq_true, Bool.true_eq_false, dayC_1, dayC_21, dayC_221, dayC_222, w01, wP, wPL, wP01, wL01, wRow, w01R, wAB, wNum, isP, isL]; done)
      refine A_iret dX9_idle_30 rfl ⟨_, rfl, (by rw [ew]; exact rV_n (by decide)), _, (by rw [ew]; first | (rw [rS_0]; exact O0) | exact O0), O16, hf⟩
  · skip
    try simp only [bI_0, bI_n0, Classical.not_not, Bool.not_eq_false, Bool.true_and, Bool.and_true, decide_eq_true_eq, decide_eq_false_iff_not, dayC_1, dayC_21, dayC_221, dayC_222] at c8
    refine A_aload_n 12 dX9_idle_11 rfl rfl rfl ?_
    refine A_iconst 13 (-1) dX9_idle_12 rfl (by decide) ?_
    refine A_callVI 16 (S_X9_refuse X l (by first | assumption | decide | omega | exact Ne.symm (by assumption)) (by first | assumption | (unfold CD; decide))) dX9_idle_13 rfl kX9_refuse lk_X9_79 rfl O0 (by decide) rfl (Nat.le_of_ble_eq_true rfl) (fun v_8 h_8 qh_8 => ?_)
    obtain ⟨rfl, n0h_8, eh_8⟩ := qh_8
    replace O0 := n0h_8
    replace O1 := (eh_8 _ (by decide)).trans O1
    replace O16 := (eh_8 _ (by decide)).trans O16
    replace hf : ∀ i, i ≠ 0 → i ≠ 16 → h_8 i = h i := fun i g0 g1 => (eh_8 i g0).trans (hf i g0 g1)
    have ew : wP01 x p v = -1 := by
      first | (simp only [c8, if_true, if_false, ite_true, ite_false, and_true, true_and, and_false, false_and, and_self, or_true, true_or, or_false, false_or, or_self, not_true_eq_false, not_false_eq_true, decide_true, decide_false, Bool.and_true, Bool.true_and, Bool.and_false, Bool.false_and, Bool.and_self, Bool.or_true, Bool.true_or, Bool.or_false, Bool.false_or, Bool.not_true, Bool.not_false, cond_true, cond_false, bI_t, bI_f, Bool.false_eq_true, Bool.true_eq_false, dayC_1, dayC_21, dayC_221, dayC_222, w01, wP, wPL, wP01, wL01, wRow, w01R, wAB, wNum, isP, isL]; done)
    refine A_iret dX9_idle_16 rfl ⟨_, rfl, (by rw [ew]; exact rV_n (by decide)), _, (by rw [ew]; first | (rw [rS_0]; exact O0) | exact O0), O16, hf⟩
set_option maxHeartbeats 4000000 in
set_option maxRecDepth 100000 in
theorem S_X9_never (X : En) (l : Launch) {h : Hp} {x : PW} {g : Int32} {r : FI} (O0 : h 0 = some (maB g r)) (O1 : h 1 = some (wB 1 x)) (hW : WOK x)  {y26 : PC} {s : Nat → Int64} {g25 : FI} (O25 : h 25 = some (foB s g25)) (O26 : h 26 = some (cB 26 y26)) {v : Int32} : Ct X l mX9_never [aR 0 0, aI v] h (QI (fun vr h2 => (rV (w01 v) (aNever x v)) = vr ∧ ∃ (z26 : PC), h2 (0) = some (maB g (rS (w01 v) r)) ∧ h2 (26) = some (cB 26 z26) ∧ ∀ i, i ≠ 0 → i ≠ 26 → h2 i = h i)) := by
  have hx := hW.1
  have hp := hW.2.1
  have h10 := hx.1
  have hf : ∀ i, i ≠ 0 → i ≠ 26 → h i = h i := fun _ _ _ => rfl
  refine Ct.intro [some (aR 0 0), some (aI v)] (by decide +kernel) rfl (Nat.le_of_ble_eq_true rfl) ?_
  refine A_iload_n 1 dX9_never_0 rfl rfl rfl ?_
  refine A_callSI 4 (S_X9_isNot0or1 X l) dX9_never_1 rfl kX9_isNot0or1 lk_X9_174 rfl (by decide) rfl (Nat.le_of_ble_eq_true rfl) (fun v_1 h_1 qh_1 => ?_)
  obtain ⟨rfl, rfl⟩ := qh_1
  refine A_if_eq 14 7 dX9_never_4 (by decide) rfl (fun c4 => ?_) (fun c4 => ?_)
  · skip
    try simp only [bI_0, bI_n0, Classical.not_not, Bool.not_eq_false, Bool.true_and, Bool.and_true, decide_eq_true_eq, decide_eq_false_iff_not, dayC_1, dayC_21, dayC_221, dayC_222] at c4
    refine A_iload_n 15 dX9_never_14 rfl rfl rfl ?_
    refine A_if_ne 42 18 dX9_never_15 (by decide) rfl (fun c15 => ?_) (fun c15 => ?_)
    · skip
      try simp only [bI_0, bI_n0, Classical.not_not, Bool.not_eq_false, Bool.true_and, Bool.and_true, decide_eq_true_eq, decide_eq_false_iff_not, dayC_1, dayC_21, dayC_221, dayC_222] at c15
      refine A_aload_n 43 dX9_never_42 rfl rfl rfl ?_
      refine A_getfield 46 dX9_never_43 rfl f_X9_75 O0 rfl ?_
      refine A_aload_n 47 dX9_never_46 rfl rfl rfl ?_
      refine A_getfield 50 dX9_never_47 rfl f_X9_10 O0 rfl ?_
      refine A_callVI 53 (S_X2_doneByAll X l (by first | assumption | decide | omega | exact Ne.symm (by assumption)) (by first | assumption | decide | omega | exact Ne.symm (by assumption)) (by first | assumption | decide | omega | exact Ne.symm (by assumption)) (by first | assumption | decide | omega | exact Ne.symm (by assumption)) (by first | assumption | decide | omega | exact Ne.symm (by assumption))) dX9_never_50 rfl kX2_doneByAll lk_X9_288 rfl O25 (by decide) rfl (Nat.le_of_ble_eq_true rfl) (fun v_2 h_2 qh_2 => ?_)
      obtain ⟨rfl, y1_2, n0h_2, eh_2⟩ := qh_2
      replace O0 := (eh_2 _ (by decide)).trans O0
      replace O1 := (eh_2 _ (by decide)).trans O1
      replace O25 := (eh_2 _ (by decide)).trans O25
      replace O26 := n0h_2
      replace hf : ∀ i, i ≠ 0 → i ≠ 26 → h_2 i = h i := fun i g0 g1 => (eh_2 i g1).trans (hf i g0 g1)
      have ew : w01 v = 0 := by
        first | (simp only [c4, c15, if_true, if_false, ite_true, ite_false, and_true, true_and, and_false, false_and, and_self, or_true, true_or, or_false, false_or, or_self, not_true_eq_false, not_false_eq_true, decide_true, decide_false, Bool.and_true, Bool.true_and, Bool.and_false, Bool.false_and, Bool.and_self, Bool.or_true, Bool.true_or, Bool.or_false, Bool.false_or, Bool.not_true, Bool.not_false, cond_true, cond_false, bI_t, bI_f, Bool.false_eq_true, Bool.true_eq_false, dayC_1, dayC_21, dayC_221, dayC_222, w01, wP, wPL, wP01, wL01, wRow, w01R, wAB, wNum, isP, isL]; done)
      refine A_iret dX9_never_53 rfl ⟨_, rfl, (by rw [ew, rV_0]; first | (simp only [c4, c15, if_true, if_false, ite_true, ite_false, and_true, true_and, and_false, false_and, and_self, or_true, true_or, or_false, false_or, or_self, not_true_eq_false, not_false_eq_true, decide_true, decide_false, Bool.and_true, Bool.true_and, Bool.and_false, Bool.false_and, Bool.and_self, Bool.or_true, Bool.true_or, Bool.or_false, Bool.false_or, Bool.not_true, Bool.not_false, cond_true, cond_false, bI_t, bI_f, Bool.false_eq_true, Bool.true_eq_false, dayC_1, dayC_21, dayC_221, dayC_222, aNever, allL, pk]; done) | (simp [aNever, allL, pk, *]; done)), _, (by rw [ew]; first | (rw [rS_0]; exact O0) | exact O0), O26, hf⟩
    · skip
      try simp only [bI_0, bI_n0, Classical.not_not, Bool.not_eq_false, Bool.true_and, Bool.and_true, decide_eq_true_eq, decide_eq_false_iff_not, dayC_1, dayC_21, dayC_221, dayC_222] at c15
      refine A_aload_n 19 dX9_never_18 rfl rfl rfl ?_
      refine A_getfield 22 dX9_never_19 rfl f_X9_10 O0 rfl ?_
      refine A_callVI 25 (S_X8_allLaws X l (by first | assumption | decide | omega | exact Ne.symm (by assumption))) dX9_never_22 rfl kX8_allLaws lk_X9_208 rfl O1 (by decide) rfl (Nat.le_of_ble_eq_true rfl) (fun v_3 h_3 qh_3 => ?_)
      obtain ⟨rfl, rfl⟩ := qh_3
      refine A_aload_n 26 dX9_never_25 rfl rfl rfl ?_
      refine A_getfield 29 dX9_never_26 rfl f_X9_75 O0 rfl ?_
      refine A_aload_n 30 dX9_never_29 rfl rfl rfl ?_
      refine A_getfield 33 dX9_never_30 rfl f_X9_10 O0 rfl ?_
      refine A_callVI 36 (S_X2_doneBySome X l (by first | assumption | decide | omega | exact Ne.symm (by assumption)) (by first | assumption | decide | omega | exact Ne.symm (by assumption)) (by first | assumption | decide | omega | exact Ne.symm (by assumption)) (by first | assumption | decide | omega | exact Ne.symm (by assumption)) (by first | assumption | decide | omega | exact Ne.symm (by assumption))) dX9_never_33 rfl kX2_doneBySome lk_X9_285 rfl O25 (by decide) rfl (Nat.le_of_ble_eq_true rfl) (fun v_4 h_4 qh_4 => ?_)
      obtain ⟨rfl, y1_4, n0h_4, eh_4⟩ := qh_4
      replace O0 := (eh_4 _ (by decide)).trans O0
      replace O1 := (eh_4 _ (by decide)).trans O1
      replace O25 := (eh_4 _ (by decide)).trans O25
      replace O26 := n0h_4
      replace hf : ∀ i, i ≠ 0 → i ≠ 26 → h_4 i = h i := fun i g0 g1 => (eh_4 i g1).trans (hf i g0 g1)
      refine A_iconst 37 (-1) dX9_never_36 rfl (by decide) ?_
      refine A_ixor 38 dX9_never_37 rfl ?_
      refine A_iand 39 dX9_never_38 rfl ?_
      refine A_goto 53 dX9_never_39 (by decide) ?_
      have ew : w01 v = 0 := by
        first | (simp only [c4, c15, if_true, if_false, ite_true, ite_false, and_true, true_and, and_false, false_and, and_self, or_true, true_or, or_false, false_or, or_self, not_true_eq_false, not_false_eq_true, decide_true, decide_false, Bool.and_true, Bool.true_and, Bool.and_false, Bool.false_and, Bool.and_self, Bool.or_true, Bool.true_or, Bool.or_false, Bool.false_or, Bool.not_true, Bool.not_false, cond_true, cond_false, bI_t, bI_f, Bool.false_eq_true, Bool.true_eq_false, dayC_1, dayC_21, dayC_221, dayC_222, w01, wP, wPL, wP01, wL01, wRow, w01R, wAB, wNum, isP, isL]; done) | (simp only [c4, eq_true c15, if_true, if_false, ite_true, ite_false, and_true, true_and, and_false, false_and, and_self, or_true, true_or, or_false, false_or, or_self, not_true_eq_false, not_false_eq_true, decide_true, decide_false, Bool.and_true, Bool.true_and, Bool.and_false, Bool.false_and, Bool.and_self, Bool.or_true, Bool.true_or, Bool.or_false, Bool.false_or, Bool.not_true, Bool.not_false, cond_true, cond_false, bI_t, bI_f, Bool.false_eq_true, Bool.true_eq_false, dayC_1, dayC_21, dayC_221, dayC_222, w01, wP, wPL, wP01, wL01, wRow, w01R, wAB, wNum, isP, isL]; done)
      refine A_iret dX9_never_53 rfl ⟨_, rfl, (by rw [ew, rV_0]; first | (simp only [c4, c15, if_true, if_false, ite_true, ite_false, and_true, true_and, and_false, false_and, and_self, or_true, true_or, or_false, false_or, or_self, not_true_eq_false, not_false_eq_true, decide_true, decide_false, Bool.and_true, Bool.true_and, Bool.and_false, Bool.false_and, Bool.and_self, Bool.or_true, Bool.true_or, Bool.or_false, Bool.false_or, Bool.not_true, Bool.not_false, cond_true, cond_false, bI_t, bI_f, Bool.false_eq_true, Bool.true_eq_false, dayC_1, dayC_21, dayC_221, dayC_222, aNever, allL, pk]; done) | (simp only [c4, eq_true c15, if_true, if_false, ite_true, ite_false, and_true, true_and, and_false, false_and, and_self, or_true, true_or, or_false, false_or, or_self, not_true_eq_false, not_false_eq_true, decide_true, decide_false, Bool.and_true, Bool.true_and, Bool.and_false, Bool.false_and, Bool.and_self, Bool.or_true, Bool.true_or, Bool.or_false, Bool.false_or, Bool.not_true, Bool.not_false, cond_true, cond_false, bI_t, bI_f, Bool.false_eq_true, Bool.true_eq_false, dayC_1, dayC_21, dayC_221, dayC_222, aNever, allL, pk]; done) | (simp [aNever, allL, pk, *]; done)), _, (by rw [ew]; first | (rw [rS_0]; exact O0) | exact O0), O26, hf⟩
  · skip
    try simp only [bI_0, bI_n0, Classical.not_not, Bool.not_eq_false, Bool.true_and, Bool.and_true, decide_eq_true_eq, decide_eq_false_iff_not, dayC_1, dayC_21, dayC_221, dayC_222] at c4
    refine A_aload_n 8 dX9_never_7 rfl rfl rfl ?_
    refine A_bipush 10 (-2) dX9_never_8 rfl (by decide) ?_
    refine A_callVI 13 (S_X9_refuse X l (by first | assumption | decide | omega | exact Ne.symm (by assumption)) (by first | assumption | (unfold CD; decide))) dX9_never_10 rfl kX9_refuse lk_X9_79 rfl O0 (by decide) rfl (Nat.le_of_ble_eq_true rfl) (fun v_5 h_5 qh_5 => ?_)
    obtain ⟨rfl, n0h_5, eh_5⟩ := qh_5
    replace O0 := n0h_5
    replace O1 := (eh_5 _ (by decide)).trans O1
    replace O25 := (eh_5 _ (by decide)).trans O25
    replace O26 := (eh_5 _ (by decide)).trans O26
    replace hf : ∀ i, i ≠ 0 → i ≠ 26 → h_5 i = h i := fun i g0 g1 => (eh_5 i g0).trans (hf i g0 g1)
    have ew : w01 v = -2 := by
      first | (simp only [c4, if_true, if_false, ite_true, ite_false, and_true, true_and, and_false, false_and, and_self, or_true, true_or, or_false, false_or, or_self, not_true_eq_false, not_false_eq_true, decide_true, decide_false, Bool.and_true, Bool.true_and, Bool.and_false, Bool.false_and, Bool.and_self, Bool.or_true, Bool.true_or, Bool.or_false, Bool.false_or, Bool.not_true, Bool.not_false, cond_true, cond_false, bI_t, bI_f, Bool.false_eq_true, Bool.true_eq_false, dayC_1, dayC_21, dayC_221, dayC_222, w01, wP, wPL, wP01, wL01, wRow, w01R, wAB, wNum, isP, isL]; done)
    refine A_iret dX9_never_13 rfl ⟨_, rfl, (by rw [ew]; exact rV_n (by decide)), _, (by rw [ew]; first | (rw [rS_0]; exact O0) | exact O0), O26, hf⟩
set_option maxHeartbeats 4000000 in
set_option maxRecDepth 100000 in
theorem S_X9_alike (X : En) (l : Launch) {h : Hp} {x : PW} {g : Int32} {r : FI} (O0 : h 0 = some (maB g r)) (O1 : h 1 = some (wB 1 x)) (hW : WOK x)  {y26 : PC} {s : Nat → Int64} {g25 : FI} (O25 : h 25 = some (foB s g25)) (O26 : h 26 = some (cB 26 y26)) {v : Int32} : Ct X l mX9_alike [aR 0 0, aI v] h (QI (fun vr h2 => (rV (w01 v) (aAlike x v)) = vr ∧ ∃ (z26 : PC), h2 (0) = some (maB g (rS (w01 v) r)) ∧ h2 (26) = some (cB 26 z26) ∧ ∀ i, i ≠ 0 → i ≠ 26 → h2 i = h i)) := by
  have hx := hW.1
  have hp := hW.2.1
  have h10 := hx.1
  have hf : ∀ i, i ≠ 0 → i ≠ 26 → h i = h i := fun _ _ _ => rfl
  refine Ct.intro [some (aR 0 0), some (aI v)] (by decide +kernel) rfl (Nat.le_of_ble_eq_true rfl) ?_
  refine A_iload_n 1 dX9_alike_0 rfl rfl rfl ?_
  refine A_callSI 4 (S_X9_isNot0or1 X l) dX9_alike_1 rfl kX9_isNot0or1 lk_X9_174 rfl (by decide) rfl (Nat.le_of_ble_eq_true rfl) (fun v_1 h_1 qh_1 => ?_)
  obtain ⟨rfl, rfl⟩ := qh_1
  refine A_if_eq 14 7 dX9_alike_4 (by decide) rfl (fun c4 => ?_) (fun c4 => ?_)
  · skip
    try simp only [bI_0, bI_n0, Classical.not_not, Bool.not_eq_false, Bool.true_and, Bool.and_true, decide_eq_true_eq, decide_eq_false_iff_not, dayC_1, dayC_21, dayC_221, dayC_222] at c4
    refine A_aload_n 15 dX9_alike_14 rfl rfl rfl ?_
    refine A_getfield 18 dX9_alike_15 rfl f_X9_75 O0 rfl ?_
    refine A_aload_n 19 dX9_alike_18 rfl rfl rfl ?_
    refine A_getfield 22 dX9_alike_19 rfl f_X9_10 O0 rfl ?_
    refine A_iload_n 23 dX9_alike_22 rfl rfl rfl ?_
    refine A_callVI 26 (S_X2_mostAlike X l (by first | assumption | decide | omega | exact Ne.symm (by assumption)) (by first | assumption | decide | omega | exact Ne.symm (by assumption)) (by first | assumption | decide | omega | exact Ne.symm (by assumption)) (by first | assumption | decide | omega | exact Ne.symm (by assumption)) (by first | assumption | decide | omega | exact Ne.symm (by assumption))) dX9_alike_23 rfl kX2_mostAlike lk_X9_291 rfl O25 (by decide) rfl (Nat.le_of_ble_eq_true rfl) (fun v_2 h_2 qh_2 => ?_)
    obtain ⟨rfl, y1_2, n0h_2, eh_2⟩ := qh_2
    replace O0 := (eh_2 _ (by decide)).trans O0
    replace O1 := (eh_2 _ (by decide)).trans O1
    replace O25 := (eh_2 _ (by decide)).trans O25
    replace O26 := n0h_2
    replace hf : ∀ i, i ≠ 0 → i ≠ 26 → h_2 i = h i := fun i g0 g1 => (eh_2 i g1).trans (hf i g0 g1)
    have ew : w01 v = 0 := by
      first | (simp only [c4, if_true, if_false, ite_true, ite_false, and_true, true_and, and_false, false_and, and_self, or_true, true_or, or_false, false_or, or_self, not_true_eq_false, not_false_eq_true, decide_true, decide_false, Bool.and_true, Bool.true_and, Bool.and_false, Bool.false_and, Bool.and_self, Bool.or_true, Bool.true_or, Bool.or_false, Bool.false_or, Bool.not_true, Bool.not_false, cond_true, cond_false, bI_t, bI_f, Bool.false_eq_true, Bool.true_eq_false, dayC_1, dayC_21, dayC_221, dayC_222, w01, wP, wPL, wP01, wL01, wRow, w01R, wAB, wNum, isP, isL]; done)
    refine A_iret dX9_alike_26 rfl ⟨_, rfl, (by rw [ew, rV_0]; first | (simp only [c4, if_true, if_false, ite_true, ite_false, and_true, true_and, and_false, false_and, and_self, or_true, true_or, or_false, false_or, or_self, not_true_eq_false, not_false_eq_true, decide_true, decide_false, Bool.and_true, Bool.true_and, Bool.and_false, Bool.false_and, Bool.and_self, Bool.or_true, Bool.true_or, Bool.or_false, Bool.false_or, Bool.not_true, Bool.not_false, cond_true, cond_false, bI_t, bI_f, Bool.false_eq_true, Bool.true_eq_false, dayC_1, dayC_21, dayC_221, dayC_222, aAlike, pk]; done) | (simp [aAlike, pk, *]; done)), _, (by rw [ew]; first | (rw [rS_0]; exact O0) | exact O0), O26, hf⟩
  · skip
    try simp only [bI_0, bI_n0, Classical.not_not, Bool.not_eq_false, Bool.true_and, Bool.and_true, decide_eq_true_eq, decide_eq_false_iff_not, dayC_1, dayC_21, dayC_221, dayC_222] at c4
    refine A_aload_n 8 dX9_alike_7 rfl rfl rfl ?_
    refine A_bipush 10 (-2) dX9_alike_8 rfl (by decide) ?_
    refine A_callVI 13 (S_X9_refuse X l (by first | assumption | decide | omega | exact Ne.symm (by assumption)) (by first | assumption | (unfold CD; decide))) dX9_alike_10 rfl kX9_refuse lk_X9_79 rfl O0 (by decide) rfl (Nat.le_of_ble_eq_true rfl) (fun v_3 h_3 qh_3 => ?_)
    obtain ⟨rfl, n0h_3, eh_3⟩ := qh_3
    replace O0 := n0h_3
    replace O1 := (eh_3 _ (by decide)).trans O1
    replace O25 := (eh_3 _ (by decide)).trans O25
    replace O26 := (eh_3 _ (by decide)).trans O26
    replace hf : ∀ i, i ≠ 0 → i ≠ 26 → h_3 i = h i := fun i g0 g1 => (eh_3 i g0).trans (hf i g0 g1)
    have ew : w01 v = -2 := by
      first | (simp only [c4, if_true, if_false, ite_true, ite_false, and_true, true_and, and_false, false_and, and_self, or_true, true_or, or_false, false_or, or_self, not_true_eq_false, not_false_eq_true, decide_true, decide_false, Bool.and_true, Bool.true_and, Bool.and_false, Bool.false_and, Bool.and_self, Bool.or_true, Bool.true_or, Bool.or_false, Bool.false_or, Bool.not_true, Bool.not_false, cond_true, cond_false, bI_t, bI_f, Bool.false_eq_true, Bool.true_eq_false, dayC_1, dayC_21, dayC_221, dayC_222, w01, wP, wPL, wP01, wL01, wRow, w01R, wAB, wNum, isP, isL]; done)
    refine A_iret dX9_alike_13 rfl ⟨_, rfl, (by rw [ew]; exact rV_n (by decide)), _, (by rw [ew]; first | (rw [rS_0]; exact O0) | exact O0), O26, hf⟩
set_option maxHeartbeats 4000000 in
set_option maxRecDepth 100000 in
theorem S_X9_dropped (X : En) (l : Launch) {h : Hp} {x : PW} {g : Int32} {r : FI} (O0 : h 0 = some (maB g r)) (O1 : h 1 = some (wB 1 x)) (hW : WOK x)  {y22 : PC} (O21 : h 21 = some (alB)) (O22 : h 22 = some (cB 22 y22)) {p : Int32} : Ct X l mX9_dropped [aR 0 0, aI p] h (QI (fun vr h2 => (rV (wP x p) (aDrop x p)) = vr ∧ ∃ (z22 : PC), h2 (0) = some (maB g (rS (wP x p) r)) ∧ h2 (22) = some (cB 22 z22) ∧ ∀ i, i ≠ 0 → i ≠ 22 → h2 i = h i)) := by
  have hx := hW.1
  have hp := hW.2.1
  have h10 := hx.1
  have hf : ∀ i, i ≠ 0 → i ≠ 22 → h i = h i := fun _ _ _ => rfl
  refine Ct.intro [some (aR 0 0), some (aI p)] (by decide +kernel) rfl (Nat.le_of_ble_eq_true rfl) ?_
  refine A_aload_n 1 dX9_dropped_0 rfl rfl rfl ?_
  refine A_getfield 4 dX9_dropped_1 rfl f_X9_10 O0 rfl ?_
  refine A_iload_n 5 dX9_dropped_4 rfl rfl rfl ?_
  refine A_callVI 8 (S_X8_isPerson X l (by first | assumption | decide | omega | exact Ne.symm (by assumption))) dX9_dropped_5 rfl kX8_isPerson lk_X9_119 rfl O1 (by decide) rfl (Nat.le_of_ble_eq_true rfl) (fun v_1 h_1 qh_1 => ?_)
  obtain ⟨rfl, rfl⟩ := qh_1
  refine A_if_ne 17 11 dX9_dropped_8 (by decide) rfl (fun c8 => ?_) (fun c8 => ?_)
  · skip
    try simp only [bI_0, bI_n0, Classical.not_not, Bool.not_eq_false, Bool.true_and, Bool.and_true, decide_eq_true_eq, decide_eq_false_iff_not, dayC_1, dayC_21, dayC_221, dayC_222] at c8
    obtain ⟨k_p, rfl, hk_p⟩ := inN_ex c8 (by omega)
    have cl_p : (nI k_p).toNatClampNeg = k_p := nI_clamp (by omega)
    refine A_aload_n 18 dX9_dropped_17 rfl rfl rfl ?_
    refine A_getfield 21 dX9_dropped_18 rfl f_X9_68 O0 rfl ?_
    refine A_aload_n 22 dX9_dropped_21 rfl rfl rfl ?_
    refine A_getfield 25 dX9_dropped_22 rfl f_X9_10 O0 rfl ?_
    refine A_aload_n 26 dX9_dropped_25 rfl rfl rfl ?_
    refine A_getfield 29 dX9_dropped_26 rfl f_X9_10 O0 rfl ?_
    refine A_iload_n 30 dX9_dropped_29 rfl rfl rfl ?_
    refine A_callVI 33 (S_X8_pocketsOf X l (by first | assumption | decide | omega | exact Ne.symm (by assumption)) (by first | assumption | decide | omega | exact Ne.symm (by assumption))) dX9_dropped_30 rfl kX8_pocketsOf lk_X9_122 rfl O1 (by decide) rfl (Nat.le_of_ble_eq_true rfl) (fun v_2 h_2 qh_2 => ?_)
    obtain ⟨rfl, rfl⟩ := qh_2
    refine A_callVI 36 (S_X0_dearestLaw X l (by first | assumption | decide | omega | exact Ne.symm (by assumption)) (by first | assumption | decide | omega | exact Ne.symm (by assumption)) (by first | assumption | decide | omega | exact Ne.symm (by assumption)) (by first | assumption | decide | omega | exact Ne.symm (by assumption))) dX9_dropped_33 rfl kX0_dearestLaw lk_X9_294 rfl O21 (by decide) rfl (Nat.le_of_ble_eq_true rfl) (fun v_3 h_3 qh_3 => ?_)
    obtain ⟨rfl, y1_3, n0h_3, eh_3⟩ := qh_3
    replace O0 := (eh_3 _ (by decide)).trans O0
    replace O1 := (eh_3 _ (by decide)).trans O1
    replace O21 := (eh_3 _ (by decide)).trans O21
    replace O22 := n0h_3
    replace hf : ∀ i, i ≠ 0 → i ≠ 22 → h_3 i = h i := fun i g0 g1 => (eh_3 i g1).trans (hf i g0 g1)
    have ew : wP x (nI k_p) = 0 := by
      first | (simp only [c8, cl_p, if_true, if_false, ite_true, ite_false, and_true, true_and, and_false, false_and, and_self, or_true, true_or, or_false, false_or, or_self, not_true_eq_false, not_false_eq_true, decide_true, decide_false, Bool.and_true, Bool.true_and, Bool.and_false, Bool.false_and, Bool.and_self, Bool.or_true, Bool.true_or, Bool.or_false, Bool.false_or, Bool.not_true, Bool.not_false, cond_true, cond_false, bI_t, bI_f, Bool.false_eq_true, Bool.true_eq_false, dayC_1, dayC_21, dayC_221, dayC_222, w01, wP, wPL, wP01, wL01, wRow, w01R, wAB, wNum, isP, isL]; done)
    refine A_iret dX9_dropped_36 rfl ⟨_, rfl, (by rw [ew, rV_0]; first | (simp only [c8, cl_p, if_true, if_false, ite_true, ite_false, and_true, true_and, and_false, false_and, and_self, or_true, true_or, or_false, false_or, or_self, not_true_eq_false, not_false_eq_true, decide_true, decide_false, Bool.and_true, Bool.true_and, Bool.and_false, Bool.false_and, Bool.and_self, Bool.or_true, Bool.true_or, Bool.or_false, Bool.false_or, Bool.not_true, Bool.not_false, cond_true, cond_false, bI_t, bI_f, Bool.false_eq_true, Bool.true_eq_false, dayC_1, dayC_21, dayC_221, dayC_222, aDrop, pk]; done) | (simp [aDrop, pk, *]; done)), _, (by rw [ew]; first | (rw [rS_0]; exact O0) | exact O0), O22, hf⟩
  · skip
    try simp only [bI_0, bI_n0, Classical.not_not, Bool.not_eq_false, Bool.true_and, Bool.and_true, decide_eq_true_eq, decide_eq_false_iff_not, dayC_1, dayC_21, dayC_221, dayC_222] at c8
    refine A_aload_n 12 dX9_dropped_11 rfl rfl rfl ?_
    refine A_iconst 13 (-1) dX9_dropped_12 rfl (by decide) ?_
    refine A_callVI 16 (S_X9_refuse X l (by first | assumption | decide | omega | exact Ne.symm (by assumption)) (by first | assumption | (unfold CD; decide))) dX9_dropped_13 rfl kX9_refuse lk_X9_79 rfl O0 (by decide) rfl (Nat.le_of_ble_eq_true rfl) (fun v_4 h_4 qh_4 => ?_)
    obtain ⟨rfl, n0h_4, eh_4⟩ := qh_4
    replace O0 := n0h_4
    replace O1 := (eh_4 _ (by decide)).trans O1
    replace O21 := (eh_4 _ (by decide)).trans O21
    replace O22 := (eh_4 _ (by decide)).trans O22
    replace hf : ∀ i, i ≠ 0 → i ≠ 22 → h_4 i = h i := fun i g0 g1 => (eh_4 i g0).trans (hf i g0 g1)
    have ew : wP x p = -1 := by
      first | (simp only [c8, if_true, if_false, ite_true, ite_false, and_true, true_and, and_false, false_and, and_self, or_true, true_or, or_false, false_or, or_self, not_true_eq_false, not_false_eq_true, decide_true, decide_false, Bool.and_true, Bool.true_and, Bool.and_false, Bool.false_and, Bool.and_self, Bool.or_true, Bool.true_or, Bool.or_false, Bool.false_or, Bool.not_true, Bool.not_false, cond_true, cond_false, bI_t, bI_f, Bool.false_eq_true, Bool.true_eq_false, dayC_1, dayC_21, dayC_221, dayC_222, w01, wP, wPL, wP01, wL01, wRow, w01R, wAB, wNum, isP, isL]; done)
    refine A_iret dX9_dropped_16 rfl ⟨_, rfl, (by rw [ew]; exact rV_n (by decide)), _, (by rw [ew]; first | (rw [rS_0]; exact O0) | exact O0), O22, hf⟩
set_option maxHeartbeats 4000000 in
set_option maxRecDepth 100000 in
theorem S_X9_key (X : En) (l : Launch) {h : Hp} {x : PW} {g : Int32} {r : FI} (O0 : h 0 = some (maB g r)) (O1 : h 1 = some (wB 1 x)) (hW : WOK x)  {y26 : PC} {s : Nat → Int64} {g25 : FI} (O25 : h 25 = some (foB s g25)) (O26 : h 26 = some (cB 26 y26)) {v : Int32} : Ct X l mX9_key [aR 0 0, aI v] h (QI (fun vr h2 => (rV (w01 v) (aKey x v)) = vr ∧ ∃ (z26 : PC), h2 (0) = some (maB g (rS (w01 v) r)) ∧ h2 (26) = some (cB 26 z26) ∧ ∀ i, i ≠ 0 → i ≠ 26 → h2 i = h i)) := by
  have hx := hW.1
  have hp := hW.2.1
  have h10 := hx.1
  have hf : ∀ i, i ≠ 0 → i ≠ 26 → h i = h i := fun _ _ _ => rfl
  refine Ct.intro [some (aR 0 0), some (aI v)] (by decide +kernel) rfl (Nat.le_of_ble_eq_true rfl) ?_
  refine A_iload_n 1 dX9_key_0 rfl rfl rfl ?_
  refine A_callSI 4 (S_X9_isNot0or1 X l) dX9_key_1 rfl kX9_isNot0or1 lk_X9_174 rfl (by decide) rfl (Nat.le_of_ble_eq_true rfl) (fun v_1 h_1 qh_1 => ?_)
  obtain ⟨rfl, rfl⟩ := qh_1
  refine A_if_eq 14 7 dX9_key_4 (by decide) rfl (fun c4 => ?_) (fun c4 => ?_)
  · skip
    try simp only [bI_0, bI_n0, Classical.not_not, Bool.not_eq_false, Bool.true_and, Bool.and_true, decide_eq_true_eq, decide_eq_false_iff_not, dayC_1, dayC_21, dayC_221, dayC_222] at c4
    refine A_aload_n 15 dX9_key_14 rfl rfl rfl ?_
    refine A_getfield 18 dX9_key_15 rfl f_X9_75 O0 rfl ?_
    refine A_aload_n 19 dX9_key_18 rfl rfl rfl ?_
    refine A_getfield 22 dX9_key_19 rfl f_X9_10 O0 rfl ?_
    refine A_iload_n 23 dX9_key_22 rfl rfl rfl ?_
    refine A_callVI 26 (S_X2_keyThing X l (by first | assumption | decide | omega | exact Ne.symm (by assumption)) (by first | assumption | decide | omega | exact Ne.symm (by assumption)) (by first | assumption | decide | omega | exact Ne.symm (by assumption)) (by first | assumption | decide | omega | exact Ne.symm (by assumption)) (by first | assumption | decide | omega | exact Ne.symm (by assumption))) dX9_key_23 rfl kX2_keyThing lk_X9_297 rfl O25 (by decide) rfl (Nat.le_of_ble_eq_true rfl) (fun v_2 h_2 qh_2 => ?_)
    obtain ⟨rfl, y1_2, n0h_2, eh_2⟩ := qh_2
    replace O0 := (eh_2 _ (by decide)).trans O0
    replace O1 := (eh_2 _ (by decide)).trans O1
    replace O25 := (eh_2 _ (by decide)).trans O25
    replace O26 := n0h_2
    replace hf : ∀ i, i ≠ 0 → i ≠ 26 → h_2 i = h i := fun i g0 g1 => (eh_2 i g1).trans (hf i g0 g1)
    have ew : w01 v = 0 := by
      first | (simp only [c4, if_true, if_false, ite_true, ite_false, and_true, true_and, and_false, false_and, and_self, or_true, true_or, or_false, false_or, or_self, not_true_eq_false, not_false_eq_true, decide_true, decide_false, Bool.and_true, Bool.true_and, Bool.and_false, Bool.false_and, Bool.and_self, Bool.or_true, Bool.true_or, Bool.or_false, Bool.false_or, Bool.not_true, Bool.not_false, cond_true, cond_false, bI_t, bI_f, Bool.false_eq_true, Bool.true_eq_false, dayC_1, dayC_21, dayC_221, dayC_222, w01, wP, wPL, wP01, wL01, wRow, w01R, wAB, wNum, isP, isL]; done)
    refine A_iret dX9_key_26 rfl ⟨_, rfl, (by rw [ew, rV_0]; first | (simp only [c4, if_true, if_false, ite_true, ite_false, and_true, true_and, and_false, false_and, and_self, or_true, true_or, or_false, false_or, or_self, not_true_eq_false, not_false_eq_true, decide_true, decide_false, Bool.and_true, Bool.true_and, Bool.and_false, Bool.false_and, Bool.and_self, Bool.or_true, Bool.true_or, Bool.or_false, Bool.false_or, Bool.not_true, Bool.not_false, cond_true, cond_false, bI_t, bI_f, Bool.false_eq_true, Bool.true_eq_false, dayC_1, dayC_21, dayC_221, dayC_222, aKey, pk]; done) | (simp [aKey, pk, *]; done)), _, (by rw [ew]; first | (rw [rS_0]; exact O0) | exact O0), O26, hf⟩
  · skip
    try simp only [bI_0, bI_n0, Classical.not_not, Bool.not_eq_false, Bool.true_and, Bool.and_true, decide_eq_true_eq, decide_eq_false_iff_not, dayC_1, dayC_21, dayC_221, dayC_222] at c4
    refine A_aload_n 8 dX9_key_7 rfl rfl rfl ?_
    refine A_bipush 10 (-2) dX9_key_8 rfl (by decide) ?_
    refine A_callVI 13 (S_X9_refuse X l (by first | assumption | decide | omega | exact Ne.symm (by assumption)) (by first | assumption | (unfold CD; decide))) dX9_key_10 rfl kX9_refuse lk_X9_79 rfl O0 (by decide) rfl (Nat.le_of_ble_eq_true rfl) (fun v_3 h_3 qh_3 => ?_)
    obtain ⟨rfl, n0h_3, eh_3⟩ := qh_3
    replace O0 := n0h_3
    replace O1 := (eh_3 _ (by decide)).trans O1
    replace O25 := (eh_3 _ (by decide)).trans O25
    replace O26 := (eh_3 _ (by decide)).trans O26
    replace hf : ∀ i, i ≠ 0 → i ≠ 26 → h_3 i = h i := fun i g0 g1 => (eh_3 i g0).trans (hf i g0 g1)
    have ew : w01 v = -2 := by
      first | (simp only [c4, if_true, if_false, ite_true, ite_false, and_true, true_and, and_false, false_and, and_self, or_true, true_or, or_false, false_or, or_self, not_true_eq_false, not_false_eq_true, decide_true, decide_false, Bool.and_true, Bool.true_and, Bool.and_false, Bool.false_and, Bool.and_self, Bool.or_true, Bool.true_or, Bool.or_false, Bool.false_or, Bool.not_true, Bool.not_false, cond_true, cond_false, bI_t, bI_f, Bool.false_eq_true, Bool.true_eq_false, dayC_1, dayC_21, dayC_221, dayC_222, w01, wP, wPL, wP01, wL01, wRow, w01R, wAB, wNum, isP, isL]; done)
    refine A_iret dX9_key_13 rfl ⟨_, rfl, (by rw [ew]; exact rV_n (by decide)), _, (by rw [ew]; first | (rw [rS_0]; exact O0) | exact O0), O26, hf⟩
set_option maxHeartbeats 4000000 in
set_option maxRecDepth 100000 in
theorem S_X9_latest (X : En) (l : Launch) {h : Hp} {x : PW} {g : Int32} {r : FI} (O0 : h 0 = some (maB g r)) (O1 : h 1 = some (wB 1 x)) (hW : WOK x)  {y22 : PC} (O21 : h 21 = some (alB)) (O22 : h 22 = some (cB 22 y22)) {x24 : PW} (O24 : h 24 = some (wB 24 x24)) {p l0 : Int32} : Ct X l mX9_latest [aR 0 0, aI p, aI l0] h (QI (fun vr h2 => (rV (wPL x p l0) (aLate x p l0)) = vr ∧ ∃ (z22 : PC) (z24 : PW), h2 (0) = some (maB g (rS (wPL x p l0) r)) ∧ h2 (22) = some (cB 22 z22) ∧ h2 (24) = some (wB 24 z24) ∧ ∀ i, i ≠ 0 → i ≠ 22 → i ≠ 24 → h2 i = h i)) := by
  have hx := hW.1
  have hp := hW.2.1
  have h10 := hx.1
  have hf : ∀ i, i ≠ 0 → i ≠ 22 → i ≠ 24 → h i = h i := fun _ _ _ _ => rfl
  refine Ct.intro [some (aR 0 0), some (aI p), some (aI l0)] (by decide +kernel) rfl (Nat.le_of_ble_eq_true rfl) ?_
  refine A_aload_n 1 dX9_latest_0 rfl rfl rfl ?_
  refine A_getfield 4 dX9_latest_1 rfl f_X9_10 O0 rfl ?_
  refine A_iload_n 5 dX9_latest_4 rfl rfl rfl ?_
  refine A_callVI 8 (S_X8_isPerson X l (by first | assumption | decide | omega | exact Ne.symm (by assumption))) dX9_latest_5 rfl kX8_isPerson lk_X9_119 rfl O1 (by decide) rfl (Nat.le_of_ble_eq_true rfl) (fun v_1 h_1 qh_1 => ?_)
  obtain ⟨rfl, rfl⟩ := qh_1
  refine A_if_eq 22 11 dX9_latest_8 (by decide) rfl (fun c8 => ?_) (fun c8 => ?_)
  · skip
    try simp only [bI_0, bI_n0, Classical.not_not, Bool.not_eq_false, Bool.true_and, Bool.and_true, decide_eq_true_eq, decide_eq_false_iff_not, dayC_1, dayC_21, dayC_221, dayC_222] at c8
    refine A_aload_n 23 dX9_latest_22 rfl rfl rfl ?_
    refine A_iconst 24 (-1) dX9_latest_23 rfl (by decide) ?_
    refine A_callVI 27 (S_X9_refuse X l (by first | assumption | decide | omega | exact Ne.symm (by assumption)) (by first | assumption | (unfold CD; decide))) dX9_latest_24 rfl kX9_refuse lk_X9_79 rfl O0 (by decide) rfl (Nat.le_of_ble_eq_true rfl) (fun v_2 h_2 qh_2 => ?_)
    obtain ⟨rfl, n0h_2, eh_2⟩ := qh_2
    replace O0 := n0h_2
    replace O1 := (eh_2 _ (by decide)).trans O1
    replace O21 := (eh_2 _ (by decide)).trans O21
    replace O22 := (eh_2 _ (by decide)).trans O22
    replace O24 := (eh_2 _ (by decide)).trans O24
    replace hf : ∀ i, i ≠ 0 → i ≠ 22 → i ≠ 24 → h_2 i = h i := fun i g0 g1 g2 => (eh_2 i g0).trans (hf i g0 g1 g2)
    have ew : wPL x p l0 = -1 := by
      first | (simp only [c8, if_true, if_false, ite_true, ite_false, and_true, true_and, and_false, false_and, and_self, or_true, true_or, or_false, false_or, or_self, not_true_eq_false, not_false_eq_true, decide_true, decide_false, Bool.and_true, Bool.true_and, Bool.and_false, Bool.false_and, Bool.and_self, Bool.or_true, Bool.true_or, Bool.or_false, Bool.false_or, Bool.not_true, Bool.not_false, cond_true, cond_false, bI_t, bI_f, Bool.false_eq_true, Bool.true_eq_false, dayC_1, dayC_21, dayC_221, dayC_222, w01, wP, wPL, wP01, wL01, wRow, w01R, wAB, wNum, isP, isL]; done)
    refine A_iret dX9_latest_27 rfl ⟨_, rfl, (by rw [ew]; exact rV_n (by decide)), _, _, (by rw [ew]; first | (rw [rS_0]; exact O0) | exact O0), O22, O24, hf⟩
  · skip
    try simp only [bI_0, bI_n0, Classical.not_not, Bool.not_eq_false, Bool.true_and, Bool.and_true, decide_eq_true_eq, decide_eq_false_iff_not, dayC_1, dayC_21, dayC_221, dayC_222] at c8
    obtain ⟨k_p, rfl, hk_p⟩ := inN_ex c8 (by omega)
    have cl_p : (nI k_p).toNatClampNeg = k_p := nI_clamp (by omega)
    refine A_aload_n 12 dX9_latest_11 rfl rfl rfl ?_
    refine A_getfield 15 dX9_latest_12 rfl f_X9_10 O0 rfl ?_
    refine A_iload_n 16 dX9_latest_15 rfl rfl rfl ?_
    refine A_callVI 19 (S_X8_isLaw X l (by first | assumption | decide | omega | exact Ne.symm (by assumption))) dX9_latest_16 rfl kX8_isLaw lk_X9_111 rfl O1 (by decide) rfl (Nat.le_of_ble_eq_true rfl) (fun v_3 h_3 qh_3 => ?_)
    obtain ⟨rfl, rfl⟩ := qh_3
    refine A_if_ne 28 22 dX9_latest_19 (by decide) rfl (fun c19 => ?_) (fun c19 => ?_)
    · skip
      try simp only [bI_0, bI_n0, Classical.not_not, Bool.not_eq_false, Bool.true_and, Bool.and_true, decide_eq_true_eq, decide_eq_false_iff_not, dayC_1, dayC_21, dayC_221, dayC_222] at c19
      obtain ⟨k_l0, rfl, hk_l0⟩ := inN_ex c19 (by omega)
      have cl_l0 : (nI k_l0).toNatClampNeg = k_l0 := nI_clamp (by omega)
      refine A_aload_n 29 dX9_latest_28 rfl rfl rfl ?_
      refine A_getfield 32 dX9_latest_29 rfl f_X9_68 O0 rfl ?_
      refine A_aload_n 33 dX9_latest_32 rfl rfl rfl ?_
      refine A_getfield 36 dX9_latest_33 rfl f_X9_10 O0 rfl ?_
      refine A_aload_n 37 dX9_latest_36 rfl rfl rfl ?_
      refine A_getfield 40 dX9_latest_37 rfl f_X9_10 O0 rfl ?_
      refine A_iload_n 41 dX9_latest_40 rfl rfl rfl ?_
      refine A_callVI 44 (S_X8_pocketsOf X l (by first | assumption | decide | omega | exact Ne.symm (by assumption)) (by first | assumption | decide | omega | exact Ne.symm (by assumption))) dX9_latest_41 rfl kX8_pocketsOf lk_X9_122 rfl O1 (by decide) rfl (Nat.le_of_ble_eq_true rfl) (fun v_4 h_4 qh_4 => ?_)
      obtain ⟨rfl, rfl⟩ := qh_4
      refine A_iload_n 45 dX9_latest_44 rfl rfl rfl ?_
      refine A_callVI 48 (S_X0_latestFigure X l (by first | assumption | decide | omega | exact Ne.symm (by assumption)) (by first | assumption | decide | omega | exact Ne.symm (by assumption)) (by first | assumption | decide | omega | exact Ne.symm (by assumption)) (by first | assumption | decide | omega | exact Ne.symm (by assumption)) (by first | assumption | decide | omega | exact Ne.symm (by assumption)) (by first | assumption | decide | omega | exact Ne.symm (by assumption))) dX9_latest_45 rfl kX0_latestFigure lk_X9_300 rfl O21 (by decide) rfl (Nat.le_of_ble_eq_true rfl) (fun v_5 h_5 qh_5 => ?_)
      obtain ⟨rfl, y1_5, x3_5, n0h_5, n1h_5, eh_5⟩ := qh_5
      replace O0 := (eh_5 _ (by decide) (by decide)).trans O0
      replace O1 := (eh_5 _ (by decide) (by decide)).trans O1
      replace O21 := (eh_5 _ (by decide) (by decide)).trans O21
      replace O22 := n0h_5
      replace O24 := n1h_5
      replace hf : ∀ i, i ≠ 0 → i ≠ 22 → i ≠ 24 → h_5 i = h i := fun i g0 g1 g2 => (eh_5 i g1 g2).trans (hf i g0 g1 g2)
      have ew : wPL x (nI k_p) (nI k_l0) = 0 := by
        first | (simp only [c8, cl_p, c19, cl_l0, if_true, if_false, ite_true, ite_false, and_true, true_and, and_false, false_and, and_self, or_true, true_or, or_false, false_or, or_self, not_true_eq_false, not_false_eq_true, decide_true, decide_false, Bool.and_true, Bool.true_and, Bool.and_false, Bool.false_and, Bool.and_self, Bool.or_true, Bool.true_or, Bool.or_false, Bool.false_or, Bool.not_true, Bool.not_false, cond_true, cond_false, bI_t, bI_f, Bool.false_eq_true, Bool.true_eq_false, dayC_1, dayC_21, dayC_221, dayC_222, w01, wP, wPL, wP01, wL01, wRow, w01R, wAB, wNum, isP, isL]; done)
      refine A_iret dX9_latest_48 rfl ⟨_, rfl, (by rw [ew, rV_0]; first | (simp only [c8, cl_p, c19, cl_l0, if_true, if_false, ite_true, ite_false, and_true, true_and, and_false, false_and, and_self, or_true, true_or, or_false, false_or, or_self, not_true_eq_false, not_false_eq_true, decide_true, decide_false, Bool.and_true, Bool.true_and, Bool.and_false, Bool.false_and, Bool.and_self, Bool.or_true, Bool.true_or, Bool.or_false, Bool.false_or, Bool.not_true, Bool.not_false, cond_true, cond_false, bI_t, bI_f, Bool.false_eq_true, Bool.true_eq_false, dayC_1, dayC_21, dayC_221, dayC_222, aLate, pk]; done) | (simp [aLate, pk, *]; done)), _, _, (by rw [ew]; first | (rw [rS_0]; exact O0) | exact O0), O22, O24, hf⟩
    · skip
      try simp only [bI_0, bI_n0, Classical.not_not, Bool.not_eq_false, Bool.true_and, Bool.and_true, decide_eq_true_eq, decide_eq_false_iff_not, dayC_1, dayC_21, dayC_221, dayC_222] at c19
      refine A_aload_n 23 dX9_latest_22 rfl rfl rfl ?_
      refine A_iconst 24 (-1) dX9_latest_23 rfl (by decide) ?_
      refine A_callVI 27 (S_X9_refuse X l (by first | assumption | decide | omega | exact Ne.symm (by assumption)) (by first | assumption | (unfold CD; decide))) dX9_latest_24 rfl kX9_refuse lk_X9_79 rfl O0 (by decide) rfl (Nat.le_of_ble_eq_true rfl) (fun v_6 h_6 qh_6 => ?_)
      obtain ⟨rfl, n0h_6, eh_6⟩ := qh_6
      replace O0 := n0h_6
      replace O1 := (eh_6 _ (by decide)).trans O1
      replace O21 := (eh_6 _ (by decide)).trans O21
      replace O22 := (eh_6 _ (by decide)).trans O22
      replace O24 := (eh_6 _ (by decide)).trans O24
      replace hf : ∀ i, i ≠ 0 → i ≠ 22 → i ≠ 24 → h_6 i = h i := fun i g0 g1 g2 => (eh_6 i g0).trans (hf i g0 g1 g2)
      have ew : wPL x (nI k_p) l0 = -1 := by
        first | (simp only [c8, cl_p, c19, if_true, if_false, ite_true, ite_false, and_true, true_and, and_false, false_and, and_self, or_true, true_or, or_false, false_or, or_self, not_true_eq_false, not_false_eq_true, decide_true, decide_false, Bool.and_true, Bool.true_and, Bool.and_false, Bool.false_and, Bool.and_self, Bool.or_true, Bool.true_or, Bool.or_false, Bool.false_or, Bool.not_true, Bool.not_false, cond_true, cond_false, bI_t, bI_f, Bool.false_eq_true, Bool.true_eq_false, dayC_1, dayC_21, dayC_221, dayC_222, w01, wP, wPL, wP01, wL01, wRow, w01R, wAB, wNum, isP, isL]; done)
      refine A_iret dX9_latest_27 rfl ⟨_, rfl, (by rw [ew]; exact rV_n (by decide)), _, _, (by rw [ew]; first | (rw [rS_0]; exact O0) | exact O0), O22, O24, hf⟩
set_option maxHeartbeats 4000000 in
set_option maxRecDepth 100000 in
theorem S_X9_needed (X : En) (l : Launch) {h : Hp} {x : PW} {g : Int32} {r : FI} (O0 : h 0 = some (maB g r)) (O1 : h 1 = some (wB 1 x)) (hW : WOK x)  {y22 : PC} (O21 : h 21 = some (alB)) (O22 : h 22 = some (cB 22 y22)) {p l0 : Int32} : Ct X l mX9_needed [aR 0 0, aI p, aI l0] h (QI (fun vr h2 => (rV (wPL x p l0) (aNeed x p l0)) = vr ∧ ∃ (z22 : PC), h2 (0) = some (maB g (rS (wPL x p l0) r)) ∧ h2 (22) = some (cB 22 z22) ∧ ∀ i, i ≠ 0 → i ≠ 22 → h2 i = h i)) := by
  have hx := hW.1
  have hp := hW.2.1
  have h10 := hx.1
  have hf : ∀ i, i ≠ 0 → i ≠ 22 → h i = h i := fun _ _ _ => rfl
  refine Ct.intro [some (aR 0 0), some (aI p), some (aI l0)] (by decide +kernel) rfl (Nat.le_of_ble_eq_true rfl) ?_
  refine A_aload_n 1 dX9_needed_0 rfl rfl rfl ?_
  refine A_getfield 4 dX9_needed_1 rfl f_X9_10 O0 rfl ?_
  refine A_iload_n 5 dX9_needed_4 rfl rfl rfl ?_
  refine A_callVI 8 (S_X8_isPerson X l (by first | assumption | decide | omega | exact Ne.symm (by assumption))) dX9_needed_5 rfl kX8_isPerson lk_X9_119 rfl O1 (by decide) rfl (Nat.le_of_ble_eq_true rfl) (fun v_1 h_1 qh_1 => ?_)
  obtain ⟨rfl, rfl⟩ := qh_1
  refine A_if_eq 22 11 dX9_needed_8 (by decide) rfl (fun c8 => ?_) (fun c8 => ?_)
  · skip
    try simp only [bI_0, bI_n0, Classical.not_not, Bool.not_eq_false, Bool.true_and, Bool.and_true, decide_eq_true_eq, decide_eq_false_iff_not, dayC_1, dayC_21, dayC_221, dayC_222] at c8
    refine A_aload_n 23 dX9_needed_22 rfl rfl rfl ?_
    refine A_iconst 24 (-1) dX9_needed_23 rfl (by decide) ?_
    refine A_callVI 27 (S_X9_refuse X l (by first | assumption | decide | omega | exact Ne.symm (by assumption)) (by first | assumption | (unfold CD; decide))) dX9_needed_24 rfl kX9_refuse lk_X9_79 rfl O0 (by decide) rfl (Nat.le_of_ble_eq_true rfl) (fun v_2 h_2 qh_2 => ?_)
    obtain ⟨rfl, n0h_2, eh_2⟩ := qh_2
    replace O0 := n0h_2
    replace O1 := (eh_2 _ (by decide)).trans O1
    replace O21 := (eh_2 _ (by decide)).trans O21
    replace O22 := (eh_2 _ (by decide)).trans O22
    replace hf : ∀ i, i ≠ 0 → i ≠ 22 → h_2 i = h i := fun i g0 g1 => (eh_2 i g0).trans (hf i g0 g1)
    have ew : wPL x p l0 = -1 := by
      first | (simp only [c8, if_true, if_false, ite_true, ite_false, and_true, true_and, and_false, false_and, and_self, or_true, true_or, or_false, false_or, or_self, not_true_eq_false, not_false_eq_true, decide_true, decide_false, Bool.and_true, Bool.true_and, Bool.and_false, Bool.false_and, Bool.and_self, Bool.or_true, Bool.true_or, Bool.or_false, Bool.false_or, Bool.not_true, Bool.not_false, cond_true, cond_false, bI_t, bI_f, Bool.false_eq_true, Bool.true_eq_false, dayC_1, dayC_21, dayC_221, dayC_222, w01, wP, wPL, wP01, wL01, wRow, w01R, wAB, wNum, isP, isL]; done)
    refine A_iret dX9_needed_27 rfl ⟨_, rfl, (by rw [ew]; exact rV_n (by decide)), _, (by rw [ew]; first | (rw [rS_0]; exact O0) | exact O0), O22, hf⟩
  · skip
    try simp only [bI_0, bI_n0, Classical.not_not, Bool.not_eq_false, Bool.true_and, Bool.and_true, decide_eq_true_eq, decide_eq_false_iff_not, dayC_1, dayC_21, dayC_221, dayC_222] at c8
    obtain ⟨k_p, rfl, hk_p⟩ := inN_ex c8 (by omega)
    have cl_p : (nI k_p).toNatClampNeg = k_p := nI_clamp (by omega)
    refine A_aload_n 12 dX9_needed_11 rfl rfl rfl ?_
    refine A_getfield 15 dX9_needed_12 rfl f_X9_10 O0 rfl ?_
    refine A_iload_n 16 dX9_needed_15 rfl rfl rfl ?_
    refine A_callVI 19 (S_X8_isLaw X l (by first | assumption | decide | omega | exact Ne.symm (by assumption))) dX9_needed_16 rfl kX8_isLaw lk_X9_111 rfl O1 (by decide) rfl (Nat.le_of_ble_eq_true rfl) (fun v_3 h_3 qh_3 => ?_)
    obtain ⟨rfl, rfl⟩ := qh_3
    refine A_if_ne 28 22 dX9_needed_19 (by decide) rfl (fun c19 => ?_) (fun c19 => ?_)
    · skip
      try simp only [bI_0, bI_n0, Classical.not_not, Bool.not_eq_false, Bool.true_and, Bool.and_true, decide_eq_true_eq, decide_eq_false_iff_not, dayC_1, dayC_21, dayC_221, dayC_222] at c19
      obtain ⟨k_l0, rfl, hk_l0⟩ := inN_ex c19 (by omega)
      have cl_l0 : (nI k_l0).toNatClampNeg = k_l0 := nI_clamp (by omega)
      refine A_aload_n 29 dX9_needed_28 rfl rfl rfl ?_
      refine A_getfield 32 dX9_needed_29 rfl f_X9_68 O0 rfl ?_
      refine A_aload_n 33 dX9_needed_32 rfl rfl rfl ?_
      refine A_getfield 36 dX9_needed_33 rfl f_X9_10 O0 rfl ?_
      refine A_aload_n 37 dX9_needed_36 rfl rfl rfl ?_
      refine A_getfield 40 dX9_needed_37 rfl f_X9_10 O0 rfl ?_
      refine A_iload_n 41 dX9_needed_40 rfl rfl rfl ?_
      refine A_callVI 44 (S_X8_pocketsOf X l (by first | assumption | decide | omega | exact Ne.symm (by assumption)) (by first | assumption | decide | omega | exact Ne.symm (by assumption))) dX9_needed_41 rfl kX8_pocketsOf lk_X9_122 rfl O1 (by decide) rfl (Nat.le_of_ble_eq_true rfl) (fun v_4 h_4 qh_4 => ?_)
      obtain ⟨rfl, rfl⟩ := qh_4
      refine A_iload_n 45 dX9_needed_44 rfl rfl rfl ?_
      refine A_callVI 48 (S_X0_lawsNeeded X l (by first | assumption | decide | omega | exact Ne.symm (by assumption)) (by first | assumption | decide | omega | exact Ne.symm (by assumption)) (by first | assumption | decide | omega | exact Ne.symm (by assumption)) (by first | assumption | decide | omega | exact Ne.symm (by assumption)) (by first | assumption | decide | omega | exact Ne.symm (by assumption))) dX9_needed_45 rfl kX0_lawsNeeded lk_X9_303 rfl O21 (by decide) rfl (Nat.le_of_ble_eq_true rfl) (fun v_5 h_5 qh_5 => ?_)
      obtain ⟨rfl, y1_5, n0h_5, eh_5⟩ := qh_5
      replace O0 := (eh_5 _ (by decide)).trans O0
      replace O1 := (eh_5 _ (by decide)).trans O1
      replace O21 := (eh_5 _ (by decide)).trans O21
      replace O22 := n0h_5
      replace hf : ∀ i, i ≠ 0 → i ≠ 22 → h_5 i = h i := fun i g0 g1 => (eh_5 i g1).trans (hf i g0 g1)
      have ew : wPL x (nI k_p) (nI k_l0) = 0 := by
        first | (simp only [c8, cl_p, c19, cl_l0, if_true, if_false, ite_true, ite_false, and_true, true_and, and_false, false_and, and_self, or_true, true_or, or_false, false_or, or_self, not_true_eq_false, not_false_eq_true, decide_true, decide_false, Bool.and_true, Bool.true_and, Bool.and_false, Bool.false_and, Bool.and_self, Bool.or_true, Bool.true_or, Bool.or_false, Bool.false_or, Bool.not_true, Bool.not_false, cond_true, cond_false, bI_t, bI_f, Bool.false_eq_true, Bool.true_eq_false, dayC_1, dayC_21, dayC_221, dayC_222, w01, wP, wPL, wP01, wL01, wRow, w01R, wAB, wNum, isP, isL]; done)
      refine A_iret dX9_needed_48 rfl ⟨_, rfl, (by rw [ew, rV_0]; first | (simp only [c8, cl_p, c19, cl_l0, if_true, if_false, ite_true, ite_false, and_true, true_and, and_false, false_and, and_self, or_true, true_or, or_false, false_or, or_self, not_true_eq_false, not_false_eq_true, decide_true, decide_false, Bool.and_true, Bool.true_and, Bool.and_false, Bool.false_and, Bool.and_self, Bool.or_true, Bool.true_or, Bool.or_false, Bool.false_or, Bool.not_true, Bool.not_false, cond_true, cond_false, bI_t, bI_f, Bool.false_eq_true, Bool.true_eq_false, dayC_1, dayC_21, dayC_221, dayC_222, aNeed, pk]; done) | (simp [aNeed, pk, *]; done)), _, (by rw [ew]; first | (rw [rS_0]; exact O0) | exact O0), O22, hf⟩
    · skip
      try simp only [bI_0, bI_n0, Classical.not_not, Bool.not_eq_false, Bool.true_and, Bool.and_true, decide_eq_true_eq, decide_eq_false_iff_not, dayC_1, dayC_21, dayC_221, dayC_222] at c19
      refine A_aload_n 23 dX9_needed_22 rfl rfl rfl ?_
      refine A_iconst 24 (-1) dX9_needed_23 rfl (by decide) ?_
      refine A_callVI 27 (S_X9_refuse X l (by first | assumption | decide | omega | exact Ne.symm (by assumption)) (by first | assumption | (unfold CD; decide))) dX9_needed_24 rfl kX9_refuse lk_X9_79 rfl O0 (by decide) rfl (Nat.le_of_ble_eq_true rfl) (fun v_6 h_6 qh_6 => ?_)
      obtain ⟨rfl, n0h_6, eh_6⟩ := qh_6
      replace O0 := n0h_6
      replace O1 := (eh_6 _ (by decide)).trans O1
      replace O21 := (eh_6 _ (by decide)).trans O21
      replace O22 := (eh_6 _ (by decide)).trans O22
      replace hf : ∀ i, i ≠ 0 → i ≠ 22 → h_6 i = h i := fun i g0 g1 => (eh_6 i g0).trans (hf i g0 g1)
      have ew : wPL x (nI k_p) l0 = -1 := by
        first | (simp only [c8, cl_p, c19, if_true, if_false, ite_true, ite_false, and_true, true_and, and_false, false_and, and_self, or_true, true_or, or_false, false_or, or_self, not_true_eq_false, not_false_eq_true, decide_true, decide_false, Bool.and_true, Bool.true_and, Bool.and_false, Bool.false_and, Bool.and_self, Bool.or_true, Bool.true_or, Bool.or_false, Bool.false_or, Bool.not_true, Bool.not_false, cond_true, cond_false, bI_t, bI_f, Bool.false_eq_true, Bool.true_eq_false, dayC_1, dayC_21, dayC_221, dayC_222, w01, wP, wPL, wP01, wL01, wRow, w01R, wAB, wNum, isP, isL]; done)
      refine A_iret dX9_needed_27 rfl ⟨_, rfl, (by rw [ew]; exact rV_n (by decide)), _, (by rw [ew]; first | (rw [rS_0]; exact O0) | exact O0), O22, hf⟩
set_option maxHeartbeats 4000000 in
set_option maxRecDepth 100000 in
theorem S_X9_earliest (X : En) (l : Launch) {h : Hp} {x : PW} {g : Int32} {r : FI} (O0 : h 0 = some (maB g r)) (O1 : h 1 = some (wB 1 x)) (hW : WOK x)  {y20 : PC} (O19 : h 19 = some (seB)) (O20 : h 20 = some (cB 20 y20)) {l0 v : Int32} : Ct X l mX9_earliest [aR 0 0, aI l0, aI v] h (QI (fun vr h2 => (rV (wL01 x l0 v) (aEarl x l0 v)) = vr ∧ ∃ (z20 : PC), h2 (0) = some (maB g (rS (wL01 x l0 v) r)) ∧ h2 (20) = some (cB 20 z20) ∧ ∀ i, i ≠ 0 → i ≠ 20 → h2 i = h i)) := by
  have hx := hW.1
  have hp := hW.2.1
  have h10 := hx.1
  have hf : ∀ i, i ≠ 0 → i ≠ 20 → h i = h i := fun _ _ _ => rfl
  refine Ct.intro [some (aR 0 0), some (aI l0), some (aI v)] (by decide +kernel) rfl (Nat.le_of_ble_eq_true rfl) ?_
  refine A_aload_n 1 dX9_earliest_0 rfl rfl rfl ?_
  refine A_getfield 4 dX9_earliest_1 rfl f_X9_10 O0 rfl ?_
  refine A_iload_n 5 dX9_earliest_4 rfl rfl rfl ?_
  refine A_callVI 8 (S_X8_isLaw X l (by first | assumption | decide | omega | exact Ne.symm (by assumption))) dX9_earliest_5 rfl kX8_isLaw lk_X9_111 rfl O1 (by decide) rfl (Nat.le_of_ble_eq_true rfl) (fun v_1 h_1 qh_1 => ?_)
  obtain ⟨rfl, rfl⟩ := qh_1
  refine A_if_ne 17 11 dX9_earliest_8 (by decide) rfl (fun c8 => ?_) (fun c8 => ?_)
  · skip
    try simp only [bI_0, bI_n0, Classical.not_not, Bool.not_eq_false, Bool.true_and, Bool.and_true, decide_eq_true_eq, decide_eq_false_iff_not, dayC_1, dayC_21, dayC_221, dayC_222] at c8
    obtain ⟨k_l0, rfl, hk_l0⟩ := inN_ex c8 (by omega)
    have cl_l0 : (nI k_l0).toNatClampNeg = k_l0 := nI_clamp (by omega)
    refine A_iload_n 18 dX9_earliest_17 rfl rfl rfl ?_
    refine A_callSI 21 (S_X9_isNot0or1 X l) dX9_earliest_18 rfl kX9_isNot0or1 lk_X9_174 rfl (by decide) rfl (Nat.le_of_ble_eq_true rfl) (fun v_2 h_2 qh_2 => ?_)
    obtain ⟨rfl, rfl⟩ := qh_2
    refine A_if_eq 31 24 dX9_earliest_21 (by decide) rfl (fun c21 => ?_) (fun c21 => ?_)
    · skip
      try simp only [bI_0, bI_n0, Classical.not_not, Bool.not_eq_false, Bool.true_and, Bool.and_true, decide_eq_true_eq, decide_eq_false_iff_not, dayC_1, dayC_21, dayC_221, dayC_222] at c21
      refine A_aload_n 32 dX9_earliest_31 rfl rfl rfl ?_
      refine A_getfield 35 dX9_earliest_32 rfl f_X9_61 O0 rfl ?_
      refine A_aload_n 36 dX9_earliest_35 rfl rfl rfl ?_
      refine A_getfield 39 dX9_earliest_36 rfl f_X9_10 O0 rfl ?_
      refine A_iload_n 40 dX9_earliest_39 rfl rfl rfl ?_
      refine A_iload_n 41 dX9_earliest_40 rfl rfl rfl ?_
      refine A_callVI 44 (S_X6_earliestOf X l (by first | assumption | decide | omega | exact Ne.symm (by assumption)) (by first | assumption | decide | omega | exact Ne.symm (by assumption)) (by first | assumption | decide | omega | exact Ne.symm (by assumption)) (by first | assumption | decide | omega | exact Ne.symm (by assumption))) dX9_earliest_41 rfl kX6_earliestOf lk_X9_310 rfl O19 (by decide) rfl (Nat.le_of_ble_eq_true rfl) (fun v_3 h_3 qh_3 => ?_)
      obtain ⟨rfl, y1_3, n0h_3, eh_3⟩ := qh_3
      replace O0 := (eh_3 _ (by decide)).trans O0
      replace O1 := (eh_3 _ (by decide)).trans O1
      replace O19 := (eh_3 _ (by decide)).trans O19
      replace O20 := n0h_3
      replace hf : ∀ i, i ≠ 0 → i ≠ 20 → h_3 i = h i := fun i g0 g1 => (eh_3 i g1).trans (hf i g0 g1)
      have ew : wL01 x (nI k_l0) v = 0 := by
        first | (simp only [c8, cl_l0, c21, if_true, if_false, ite_true, ite_false, and_true, true_and, and_false, false_and, and_self, or_true, true_or, or_false, false_or, or_self, not_true_eq_false, not_false_eq_true, decide_true, decide_false, Bool.and_true, Bool.true_and, Bool.and_false, Bool.false_and, Bool.and_self, Bool.or_true, Bool.true_or, Bool.or_false, Bool.false_or, Bool.not_true, Bool.not_false, cond_true, cond_false, bI_t, bI_f, Bool.false_eq_true, Bool.true_eq_false, dayC_1, dayC_21, dayC_221, dayC_222, w01, wP, wPL, wP01, wL01, wRow, w01R, wAB, wNum, isP, isL]; done)
      refine A_iret dX9_earliest_44 rfl ⟨_, rfl, (by rw [ew, rV_0]; first | (simp only [c8, cl_l0, c21, if_true, if_false, ite_true, ite_false, and_true, true_and, and_false, false_and, and_self, or_true, true_or, or_false, false_or, or_self, not_true_eq_false, not_false_eq_true, decide_true, decide_false, Bool.and_true, Bool.true_and, Bool.and_false, Bool.false_and, Bool.and_self, Bool.or_true, Bool.true_or, Bool.or_false, Bool.false_or, Bool.not_true, Bool.not_false, cond_true, cond_false, bI_t, bI_f, Bool.false_eq_true, Bool.true_eq_false, dayC_1, dayC_21, dayC_221, dayC_222, aEarl, pk]; done) | (simp [aEarl, pk, *]; done)), _, (by rw [ew]; first | (rw [rS_0]; exact O0) | exact O0), O20, hf⟩
    · skip
      try simp only [bI_0, bI_n0, Classical.not_not, Bool.not_eq_false, Bool.true_and, Bool.and_true, decide_eq_true_eq, decide_eq_false_iff_not, dayC_1, dayC_21, dayC_221, dayC_222] at c21
      refine A_aload_n 25 dX9_earliest_24 rfl rfl rfl ?_
      refine A_bipush 27 (-2) dX9_earliest_25 rfl (by decide) ?_
      refine A_callVI 30 (S_X9_refuse X l (by first | assumption | decide | omega | exact Ne.symm (by assumption)) (by first | assumption | (unfold CD; decide))) dX9_earliest_27 rfl kX9_refuse lk_X9_79 rfl O0 (by decide) rfl (Nat.le_of_ble_eq_true rfl) (fun v_4 h_4 qh_4 => ?_)
      obtain ⟨rfl, n0h_4, eh_4⟩ := qh_4
      replace O0 := n0h_4
      replace O1 := (eh_4 _ (by decide)).trans O1
      replace O19 := (eh_4 _ (by decide)).trans O19
      replace O20 := (eh_4 _ (by decide)).trans O20
      replace hf : ∀ i, i ≠ 0 → i ≠ 20 → h_4 i = h i := fun i g0 g1 => (eh_4 i g0).trans (hf i g0 g1)
      have ew : wL01 x (nI k_l0) v = -2 := by
        first | (simp only [c8, cl_l0, c21, if_true, if_false, ite_true, ite_false, and_true, true_and, and_false, false_and, and_self, or_true, true_or, or_false, false_or, or_self, not_true_eq_false, not_false_eq_true, decide_true, decide_false, Bool.and_true, Bool.true_and, Bool.and_false, Bool.false_and, Bool.and_self, Bool.or_true, Bool.true_or, Bool.or_false, Bool.false_or, Bool.not_true, Bool.not_false, cond_true, cond_false, bI_t, bI_f, Bool.false_eq_true, Bool.true_eq_false, dayC_1, dayC_21, dayC_221, dayC_222, w01, wP, wPL, wP01, wL01, wRow, w01R, wAB, wNum, isP, isL]; done)
      refine A_iret dX9_earliest_30 rfl ⟨_, rfl, (by rw [ew]; exact rV_n (by decide)), _, (by rw [ew]; first | (rw [rS_0]; exact O0) | exact O0), O20, hf⟩
  · skip
    try simp only [bI_0, bI_n0, Classical.not_not, Bool.not_eq_false, Bool.true_and, Bool.and_true, decide_eq_true_eq, decide_eq_false_iff_not, dayC_1, dayC_21, dayC_221, dayC_222] at c8
    refine A_aload_n 12 dX9_earliest_11 rfl rfl rfl ?_
    refine A_iconst 13 (-1) dX9_earliest_12 rfl (by decide) ?_
    refine A_callVI 16 (S_X9_refuse X l (by first | assumption | decide | omega | exact Ne.symm (by assumption)) (by first | assumption | (unfold CD; decide))) dX9_earliest_13 rfl kX9_refuse lk_X9_79 rfl O0 (by decide) rfl (Nat.le_of_ble_eq_true rfl) (fun v_5 h_5 qh_5 => ?_)
    obtain ⟨rfl, n0h_5, eh_5⟩ := qh_5
    replace O0 := n0h_5
    replace O1 := (eh_5 _ (by decide)).trans O1
    replace O19 := (eh_5 _ (by decide)).trans O19
    replace O20 := (eh_5 _ (by decide)).trans O20
    replace hf : ∀ i, i ≠ 0 → i ≠ 20 → h_5 i = h i := fun i g0 g1 => (eh_5 i g0).trans (hf i g0 g1)
    have ew : wL01 x l0 v = -1 := by
      first | (simp only [c8, if_true, if_false, ite_true, ite_false, and_true, true_and, and_false, false_and, and_self, or_true, true_or, or_false, false_or, or_self, not_true_eq_false, not_false_eq_true, decide_true, decide_false, Bool.and_true, Bool.true_and, Bool.and_false, Bool.false_and, Bool.and_self, Bool.or_true, Bool.true_or, Bool.or_false, Bool.false_or, Bool.not_true, Bool.not_false, cond_true, cond_false, bI_t, bI_f, Bool.false_eq_true, Bool.true_eq_false, dayC_1, dayC_21, dayC_221, dayC_222, w01, wP, wPL, wP01, wL01, wRow, w01R, wAB, wNum, isP, isL]; done)
    refine A_iret dX9_earliest_16 rfl ⟨_, rfl, (by rw [ew]; exact rV_n (by decide)), _, (by rw [ew]; first | (rw [rS_0]; exact O0) | exact O0), O20, hf⟩
set_option maxHeartbeats 4000000 in
set_option maxRecDepth 100000 in
theorem S_X9_safe (X : En) (l : Launch) {h : Hp} {x : PW} {g : Int32} {r : FI} (O0 : h 0 = some (maB g r)) (O1 : h 1 = some (wB 1 x)) (hW : WOK x)  {y22 : PC} (O21 : h 21 = some (alB)) (O22 : h 22 = some (cB 22 y22)) {y23 : PC} (O23 : h 23 = some (cB 23 y23)) {p : Int32} : Ct X l mX9_safe [aR 0 0, aI p] h (QI (fun vr h2 => (rV (wP x p) (aSafe x p)) = vr ∧ ∃ (z22 : PC) (z23 : PC), h2 (0) = some (maB g (rS (wP x p) r)) ∧ h2 (22) = some (cB 22 z22) ∧ h2 (23) = some (cB 23 z23) ∧ ∀ i, i ≠ 0 → i ≠ 22 → i ≠ 23 → h2 i = h i)) := by
  have hx := hW.1
  have hp := hW.2.1
  have h10 := hx.1
  have hf : ∀ i, i ≠ 0 → i ≠ 22 → i ≠ 23 → h i = h i := fun _ _ _ _ => rfl
  refine Ct.intro [some (aR 0 0), some (aI p)] (by decide +kernel) rfl (Nat.le_of_ble_eq_true rfl) ?_
  refine A_aload_n 1 dX9_safe_0 rfl rfl rfl ?_
  refine A_getfield 4 dX9_safe_1 rfl f_X9_10 O0 rfl ?_
  refine A_iload_n 5 dX9_safe_4 rfl rfl rfl ?_
  refine A_callVI 8 (S_X8_isPerson X l (by first | assumption | decide | omega | exact Ne.symm (by assumption))) dX9_safe_5 rfl kX8_isPerson lk_X9_119 rfl O1 (by decide) rfl (Nat.le_of_ble_eq_true rfl) (fun v_1 h_1 qh_1 => ?_)
  obtain ⟨rfl, rfl⟩ := qh_1
  refine A_if_ne 17 11 dX9_safe_8 (by decide) rfl (fun c8 => ?_) (fun c8 => ?_)
  · skip
    try simp only [bI_0, bI_n0, Classical.not_not, Bool.not_eq_false, Bool.true_and, Bool.and_true, decide_eq_true_eq, decide_eq_false_iff_not, dayC_1, dayC_21, dayC_221, dayC_222] at c8
    obtain ⟨k_p, rfl, hk_p⟩ := inN_ex c8 (by omega)
    have cl_p : (nI k_p).toNatClampNeg = k_p := nI_clamp (by omega)
    refine A_aload_n 18 dX9_safe_17 rfl rfl rfl ?_
    refine A_getfield 21 dX9_safe_18 rfl f_X9_68 O0 rfl ?_
    refine A_aload_n 22 dX9_safe_21 rfl rfl rfl ?_
    refine A_getfield 25 dX9_safe_22 rfl f_X9_10 O0 rfl ?_
    refine A_aload_n 26 dX9_safe_25 rfl rfl rfl ?_
    refine A_getfield 29 dX9_safe_26 rfl f_X9_10 O0 rfl ?_
    refine A_iload_n 30 dX9_safe_29 rfl rfl rfl ?_
    refine A_callVI 33 (S_X8_pocketsOf X l (by first | assumption | decide | omega | exact Ne.symm (by assumption)) (by first | assumption | decide | omega | exact Ne.symm (by assumption))) dX9_safe_30 rfl kX8_pocketsOf lk_X9_122 rfl O1 (by decide) rfl (Nat.le_of_ble_eq_true rfl) (fun v_2 h_2 qh_2 => ?_)
    obtain ⟨rfl, rfl⟩ := qh_2
    refine A_callVI 36 (S_X0_idleThings X l (by first | assumption | decide | omega | exact Ne.symm (by assumption)) (by first | assumption | decide | omega | exact Ne.symm (by assumption)) (by first | assumption | decide | omega | exact Ne.symm (by assumption)) (by first | assumption | decide | omega | exact Ne.symm (by assumption)) (by first | assumption | decide | omega | exact Ne.symm (by assumption))) dX9_safe_33 rfl kX0_idleThings lk_X9_313 rfl O21 (by decide) rfl (Nat.le_of_ble_eq_true rfl) (fun v_3 h_3 qh_3 => ?_)
    obtain ⟨rfl, y1_3, z1_3, n0h_3, n1h_3, eh_3⟩ := qh_3
    replace O0 := (eh_3 _ (by decide) (by decide)).trans O0
    replace O1 := (eh_3 _ (by decide) (by decide)).trans O1
    replace O21 := (eh_3 _ (by decide) (by decide)).trans O21
    replace O22 := n0h_3
    replace O23 := n1h_3
    replace hf : ∀ i, i ≠ 0 → i ≠ 22 → i ≠ 23 → h_3 i = h i := fun i g0 g1 g2 => (eh_3 i g1 g2).trans (hf i g0 g1 g2)
    have ew : wP x (nI k_p) = 0 := by
      first | (simp only [c8, cl_p, if_true, if_false, ite_true, ite_false, and_true, true_and, and_false, false_and, and_self, or_true, true_or, or_false, false_or, or_self, not_true_eq_false, not_false_eq_true, decide_true, decide_false, Bool.and_true, Bool.true_and, Bool.and_false, Bool.false_and, Bool.and_self, Bool.or_true, Bool.true_or, Bool.or_false, Bool.false_or, Bool.not_true, Bool.not_false, cond_true, cond_false, bI_t, bI_f, Bool.false_eq_true, Bool.true_eq_false, dayC_1, dayC_21, dayC_221, dayC_222, w01, wP, wPL, wP01, wL01, wRow, w01R, wAB, wNum, isP, isL]; done)
    refine A_iret dX9_safe_36 rfl ⟨_, rfl, (by rw [ew, rV_0]; first | (simp only [c8, cl_p, if_true, if_false, ite_true, ite_false, and_true, true_and, and_false, false_and, and_self, or_true, true_or, or_false, false_or, or_self, not_true_eq_false, not_false_eq_true, decide_true, decide_false, Bool.and_true, Bool.true_and, Bool.and_false, Bool.false_and, Bool.and_self, Bool.or_true, Bool.true_or, Bool.or_false, Bool.false_or, Bool.not_true, Bool.not_false, cond_true, cond_false, bI_t, bI_f, Bool.false_eq_true, Bool.true_eq_false, dayC_1, dayC_21, dayC_221, dayC_222, aSafe, pk]; done) | (simp [aSafe, pk, *]; done)), _, _, (by rw [ew]; first | (rw [rS_0]; exact O0) | exact O0), O22, O23, hf⟩
  · skip
    try simp only [bI_0, bI_n0, Classical.not_not, Bool.not_eq_false, Bool.true_and, Bool.and_true, decide_eq_true_eq, decide_eq_false_iff_not, dayC_1, dayC_21, dayC_221, dayC_222] at c8
    refine A_aload_n 12 dX9_safe_11 rfl rfl rfl ?_
    refine A_iconst 13 (-1) dX9_safe_12 rfl (by decide) ?_
    refine A_callVI 16 (S_X9_refuse X l (by first | assumption | decide | omega | exact Ne.symm (by assumption)) (by first | assumption | (unfold CD; decide))) dX9_safe_13 rfl kX9_refuse lk_X9_79 rfl O0 (by decide) rfl (Nat.le_of_ble_eq_true rfl) (fun v_4 h_4 qh_4 => ?_)
    obtain ⟨rfl, n0h_4, eh_4⟩ := qh_4
    replace O0 := n0h_4
    replace O1 := (eh_4 _ (by decide)).trans O1
    replace O21 := (eh_4 _ (by decide)).trans O21
    replace O22 := (eh_4 _ (by decide)).trans O22
    replace O23 := (eh_4 _ (by decide)).trans O23
    replace hf : ∀ i, i ≠ 0 → i ≠ 22 → i ≠ 23 → h_4 i = h i := fun i g0 g1 g2 => (eh_4 i g0).trans (hf i g0 g1 g2)
    have ew : wP x p = -1 := by
      first | (simp only [c8, if_true, if_false, ite_true, ite_false, and_true, true_and, and_false, false_and, and_self, or_true, true_or, or_false, false_or, or_self, not_true_eq_false, not_false_eq_true, decide_true, decide_false, Bool.and_true, Bool.true_and, Bool.and_false, Bool.false_and, Bool.and_self, Bool.or_true, Bool.true_or, Bool.or_false, Bool.false_or, Bool.not_true, Bool.not_false, cond_true, cond_false, bI_t, bI_f, Bool.false_eq_true, Bool.true_eq_false, dayC_1, dayC_21, dayC_221, dayC_222, w01, wP, wPL, wP01, wL01, wRow, w01R, wAB, wNum, isP, isL]; done)
    refine A_iret dX9_safe_16 rfl ⟨_, rfl, (by rw [ew]; exact rV_n (by decide)), _, _, (by rw [ew]; first | (rw [rS_0]; exact O0) | exact O0), O22, O23, hf⟩
set_option maxHeartbeats 4000000 in
set_option maxRecDepth 100000 in
theorem S_X9_ways (X : En) (l : Launch) {h : Hp} {x : PW} {g : Int32} {r : FI} (O0 : h 0 = some (maB g r)) (O1 : h 1 = some (wB 1 x)) (hW : WOK x)  {y20 : PC} (O19 : h 19 = some (seB)) (O20 : h 20 = some (cB 20 y20)) {l0 v : Int32} : Ct X l mX9_ways [aR 0 0, aI l0, aI v] h (QI (fun vr h2 => (rV (wL01 x l0 v) (aWays x l0 v)) = vr ∧ ∃ (z20 : PC), h2 (0) = some (maB g (rS (wL01 x l0 v) r)) ∧ h2 (20) = some (cB 20 z20) ∧ ∀ i, i ≠ 0 → i ≠ 20 → h2 i = h i)) := by
  have hx := hW.1
  have hp := hW.2.1
  have h10 := hx.1
  have hf : ∀ i, i ≠ 0 → i ≠ 20 → h i = h i := fun _ _ _ => rfl
  refine Ct.intro [some (aR 0 0), some (aI l0), some (aI v)] (by decide +kernel) rfl (Nat.le_of_ble_eq_true rfl) ?_
  refine A_aload_n 1 dX9_ways_0 rfl rfl rfl ?_
  refine A_getfield 4 dX9_ways_1 rfl f_X9_10 O0 rfl ?_
  refine A_iload_n 5 dX9_ways_4 rfl rfl rfl ?_
  refine A_callVI 8 (S_X8_isLaw X l (by first | assumption | decide | omega | exact Ne.symm (by assumption))) dX9_ways_5 rfl kX8_isLaw lk_X9_111 rfl O1 (by decide) rfl (Nat.le_of_ble_eq_true rfl) (fun v_1 h_1 qh_1 => ?_)
  obtain ⟨rfl, rfl⟩ := qh_1
  refine A_if_ne 17 11 dX9_ways_8 (by decide) rfl (fun c8 => ?_) (fun c8 => ?_)
  · skip
    try simp only [bI_0, bI_n0, Classical.not_not, Bool.not_eq_false, Bool.true_and, Bool.and_true, decide_eq_true_eq, decide_eq_false_iff_not, dayC_1, dayC_21, dayC_221, dayC_222] at c8
    obtain ⟨k_l0, rfl, hk_l0⟩ := inN_ex c8 (by omega)
    have cl_l0 : (nI k_l0).toNatClampNeg = k_l0 := nI_clamp (by omega)
    refine A_iload_n 18 dX9_ways_17 rfl rfl rfl ?_
    refine A_callSI 21 (S_X9_isNot0or1 X l) dX9_ways_18 rfl kX9_isNot0or1 lk_X9_174 rfl (by decide) rfl (Nat.le_of_ble_eq_true rfl) (fun v_2 h_2 qh_2 => ?_)
    obtain ⟨rfl, rfl⟩ := qh_2
    refine A_if_eq 31 24 dX9_ways_21 (by decide) rfl (fun c21 => ?_) (fun c21 => ?_)
    · skip
      try simp only [bI_0, bI_n0, Classical.not_not, Bool.not_eq_false, Bool.true_and, Bool.and_true, decide_eq_true_eq, decide_eq_false_iff_not, dayC_1, dayC_21, dayC_221, dayC_222] at c21
      refine A_iload_n 32 dX9_ways_31 rfl rfl rfl ?_
      refine A_if_ne 50 35 dX9_ways_32 (by decide) rfl (fun c32 => ?_) (fun c32 => ?_)
      · skip
        try simp only [bI_0, bI_n0, Classical.not_not, Bool.not_eq_false, Bool.true_and, Bool.and_true, decide_eq_true_eq, decide_eq_false_iff_not, dayC_1, dayC_21, dayC_221, dayC_222] at c32
        refine A_aload_n 51 dX9_ways_50 rfl rfl rfl ?_
        refine A_getfield 54 dX9_ways_51 rfl f_X9_61 O0 rfl ?_
        refine A_aload_n 55 dX9_ways_54 rfl rfl rfl ?_
        refine A_getfield 58 dX9_ways_55 rfl f_X9_10 O0 rfl ?_
        refine A_iconst 59 (0) dX9_ways_58 rfl (by decide) ?_
        refine A_iload_n 60 dX9_ways_59 rfl rfl rfl ?_
        refine A_callVI 63 (S_X6_fewestBrought X l (by first | assumption | decide | omega | exact Ne.symm (by assumption)) (by first | assumption | decide | omega | exact Ne.symm (by assumption)) (by first | assumption | decide | omega | exact Ne.symm (by assumption)) (by first | assumption | decide | omega | exact Ne.symm (by assumption))) dX9_ways_60 rfl kX6_fewestBrought lk_X9_214 rfl O19 (by decide) rfl (Nat.le_of_ble_eq_true rfl) (fun v_3 h_3 qh_3 => ?_)
        obtain ⟨rfl, y1_3, n0h_3, eh_3⟩ := qh_3
        replace O0 := (eh_3 _ (by decide)).trans O0
        replace O1 := (eh_3 _ (by decide)).trans O1
        replace O19 := (eh_3 _ (by decide)).trans O19
        replace O20 := n0h_3
        replace hf : ∀ i, i ≠ 0 → i ≠ 20 → h_3 i = h i := fun i g0 g1 => (eh_3 i g1).trans (hf i g0 g1)
        have ew : wL01 x (nI k_l0) v = 0 := by
          first | (simp only [c8, cl_l0, c21, c32, if_true, if_false, ite_true, ite_false, and_true, true_and, and_false, false_and, and_self, or_true, true_or, or_false, false_or, or_self, not_true_eq_false, not_false_eq_true, decide_true, decide_false, Bool.and_true, Bool.true_and, Bool.and_false, Bool.false_and, Bool.and_self, Bool.or_true, Bool.true_or, Bool.or_false, Bool.false_or, Bool.not_true, Bool.not_false, cond_true, cond_false, bI_t, bI_f, Bool.false_eq_true, Bool.true_eq_false, dayC_1, dayC_21, dayC_221, dayC_222, w01, wP, wPL, wP01, wL01, wRow, w01R, wAB, wNum, isP, isL]; done)
        refine A_iret dX9_ways_63 rfl ⟨_, rfl, (by rw [ew, rV_0]; first | (simp only [c8, cl_l0, c21, c32, if_true, if_false, ite_true, ite_false, and_true, true_and, and_false, false_and, and_self, or_true, true_or, or_false, false_or, or_self, not_true_eq_false, not_false_eq_true, decide_true, decide_false, Bool.and_true, Bool.true_and, Bool.and_false, Bool.false_and, Bool.and_self, Bool.or_true, Bool.true_or, Bool.or_false, Bool.false_or, Bool.not_true, Bool.not_false, cond_true, cond_false, bI_t, bI_f, Bool.false_eq_true, Bool.true_eq_false, dayC_1, dayC_21, dayC_221, dayC_222, aWays, pk]; done) | (simp [aWays, pk, *]; done)), _, (by rw [ew]; first | (rw [rS_0]; exact O0) | exact O0), O20, hf⟩
      · skip
        try simp only [bI_0, bI_n0, Classical.not_not, Bool.not_eq_false, Bool.true_and, Bool.and_true, decide_eq_true_eq, decide_eq_false_iff_not, dayC_1, dayC_21, dayC_221, dayC_222] at c32
        refine A_aload_n 36 dX9_ways_35 rfl rfl rfl ?_
        refine A_getfield 39 dX9_ways_36 rfl f_X9_61 O0 rfl ?_
        refine A_aload_n 40 dX9_ways_39 rfl rfl rfl ?_
        refine A_getfield 43 dX9_ways_40 rfl f_X9_10 O0 rfl ?_
        refine A_iload_n 44 dX9_ways_43 rfl rfl rfl ?_
        refine A_callVI 47 (S_X6_waysTo X l (by first | assumption | decide | omega | exact Ne.symm (by assumption)) (by first | assumption | decide | omega | exact Ne.symm (by assumption)) (by first | assumption | decide | omega | exact Ne.symm (by assumption)) (by first | assumption | decide | omega | exact Ne.symm (by assumption))) dX9_ways_44 rfl kX6_waysTo lk_X9_323 rfl O19 (by decide) rfl (Nat.le_of_ble_eq_true rfl) (fun v_4 h_4 qh_4 => ?_)
        obtain ⟨rfl, y1_4, n0h_4, eh_4⟩ := qh_4
        replace O0 := (eh_4 _ (by decide)).trans O0
        replace O1 := (eh_4 _ (by decide)).trans O1
        replace O19 := (eh_4 _ (by decide)).trans O19
        replace O20 := n0h_4
        replace hf : ∀ i, i ≠ 0 → i ≠ 20 → h_4 i = h i := fun i g0 g1 => (eh_4 i g1).trans (hf i g0 g1)
        refine A_goto 63 dX9_ways_47 (by decide) ?_
        have ew : wL01 x (nI k_l0) v = 0 := by
          first | (simp only [c8, cl_l0, c21, c32, if_true, if_false, ite_true, ite_false, and_true, true_and, and_false, false_and, and_self, or_true, true_or, or_false, false_or, or_self, not_true_eq_false, not_false_eq_true, decide_true, decide_false, Bool.and_true, Bool.true_and, Bool.and_false, Bool.false_and, Bool.and_self, Bool.or_true, Bool.true_or, Bool.or_false, Bool.false_or, Bool.not_true, Bool.not_false, cond_true, cond_false, bI_t, bI_f, Bool.false_eq_true, Bool.true_eq_false, dayC_1, dayC_21, dayC_221, dayC_222, w01, wP, wPL, wP01, wL01, wRow, w01R, wAB, wNum, isP, isL]; done) | (simp only [c8, cl_l0, c21, eq_true c32, if_true, if_false, ite_true, ite_false, and_true, true_and, and_false, false_and, and_self, or_true, true_or, or_false, false_or, or_self, not_true_eq_false, not_false_eq_true, decide_true, decide_false, Bool.and_true, Bool.true_and, Bool.and_false, Bool.false_and, Bool.and_self, Bool.or_true, Bool.true_or, Bool.or_false, Bool.false_or, Bool.not_true, Bool.not_false, cond_true, cond_false, bI_t, bI_f, Bool.false_eq_true, Bool.true_eq_false, dayC_1, dayC_21, dayC_221, dayC_222, w01, wP, wPL, wP01, wL01, wRow, w01R, wAB, wNum, isP, isL]; done)
        refine A_iret dX9_ways_63 rfl ⟨_, rfl, (by rw [ew, rV_0]; first | (simp only [c8, cl_l0, c21, c32, if_true, if_false, ite_true, ite_false, and_true, true_and, and_false, false_and, and_self, or_true, true_or, or_false, false_or, or_self, not_true_eq_false, not_false_eq_true, decide_true, decide_false, Bool.and_true, Bool.true_and, Bool.and_false, Bool.false_and, Bool.and_self, Bool.or_true, Bool.true_or, Bool.or_false, Bool.false_or, Bool.not_true, Bool.not_false, cond_true, cond_false, bI_t, bI_f, Bool.false_eq_true, Bool.true_eq_false, dayC_1, dayC_21, dayC_221, dayC_222, aWays, pk]; done) | (simp only [c8, cl_l0, c21, eq_true c32, if_true, if_false, ite_true, ite_false, and_true, true_and, and_false, false_and, and_self, or_true, true_or, or_false, false_or, or_self, not_true_eq_false, not_false_eq_true, decide_true, decide_false, Bool.and_true, Bool.true_and, Bool.and_false, Bool.false_and, Bool.and_self, Bool.or_true, Bool.true_or, Bool.or_false, Bool.false_or, Bool.not_true, Bool.not_false, cond_true, cond_false, bI_t, bI_f, Bool.false_eq_true, Bool.true_eq_false, dayC_1, dayC_21, dayC_221, dayC_222, aWays, pk]; done) | (simp [aWays, pk, *]; done)), _, (by rw [ew]; first | (rw [rS_0]; exact O0) | exact O0), O20, hf⟩
    · skip
      try simp only [bI_0, bI_n0, Classical.not_not, Bool.not_eq_false, Bool.true_and, Bool.and_true, decide_eq_true_eq, decide_eq_false_iff_not, dayC_1, dayC_21, dayC_221, dayC_222] at c21
      refine A_aload_n 25 dX9_ways_24 rfl rfl rfl ?_
      refine A_bipush 27 (-2) dX9_ways_25 rfl (by decide) ?_
      refine A_callVI 30 (S_X9_refuse X l (by first | assumption | decide | omega | exact Ne.symm (by assumption)) (by first | assumption | (unfold CD; decide))) dX9_ways_27 rfl kX9_refuse lk_X9_79 rfl O0 (by decide) rfl (Nat.le_of_ble_eq_true rfl) (fun v_5 h_5 qh_5 => ?_)
      obtain ⟨rfl, n0h_5, eh_5⟩ := qh_5
      replace O0 := n0h_5
      replace O1 := (eh_5 _ (by decide)).trans O1
      replace O19 := (eh_5 _ (by decide)).trans O19
      replace O20 := (eh_5 _ (by decide)).trans O20
      replace hf : ∀ i, i ≠ 0 → i ≠ 20 → h_5 i = h i := fun i g0 g1 => (eh_5 i g0).trans (hf i g0 g1)
      have ew : wL01 x (nI k_l0) v = -2 := by
        first | (simp only [c8, cl_l0, c21, if_true, if_false, ite_true, ite_false, and_true, true_and, and_false, false_and, and_self, or_true, true_or, or_false, false_or, or_self, not_true_eq_false, not_false_eq_true, decide_true, decide_false, Bool.and_true, Bool.true_and, Bool.and_false, Bool.false_and, Bool.and_self, Bool.or_true, Bool.true_or, Bool.or_false, Bool.false_or, Bool.not_true, Bool.not_false, cond_true, cond_false, bI_t, bI_f, Bool.false_eq_true, Bool.true_eq_false, dayC_1, dayC_21, dayC_221, dayC_222, w01, wP, wPL, wP01, wL01, wRow, w01R, wAB, wNum, isP, isL]; done)
      refine A_iret dX9_ways_30 rfl ⟨_, rfl, (by rw [ew]; exact rV_n (by decide)), _, (by rw [ew]; first | (rw [rS_0]; exact O0) | exact O0), O20, hf⟩
  · skip
    try simp only [bI_0, bI_n0, Classical.not_not, Bool.not_eq_false, Bool.true_and, Bool.and_true, decide_eq_true_eq, decide_eq_false_iff_not, dayC_1, dayC_21, dayC_221, dayC_222] at c8
    refine A_aload_n 12 dX9_ways_11 rfl rfl rfl ?_
    refine A_iconst 13 (-1) dX9_ways_12 rfl (by decide) ?_
    refine A_callVI 16 (S_X9_refuse X l (by first | assumption | decide | omega | exact Ne.symm (by assumption)) (by first | assumption | (unfold CD; decide))) dX9_ways_13 rfl kX9_refuse lk_X9_79 rfl O0 (by decide) rfl (Nat.le_of_ble_eq_true rfl) (fun v_6 h_6 qh_6 => ?_)
    obtain ⟨rfl, n0h_6, eh_6⟩ := qh_6
    replace O0 := n0h_6
    replace O1 := (eh_6 _ (by decide)).trans O1
    replace O19 := (eh_6 _ (by decide)).trans O19
    replace O20 := (eh_6 _ (by decide)).trans O20
    replace hf : ∀ i, i ≠ 0 → i ≠ 20 → h_6 i = h i := fun i g0 g1 => (eh_6 i g0).trans (hf i g0 g1)
    have ew : wL01 x l0 v = -1 := by
      first | (simp only [c8, if_true, if_false, ite_true, ite_false, and_true, true_and, and_false, false_and, and_self, or_true, true_or, or_false, false_or, or_self, not_true_eq_false, not_false_eq_true, decide_true, decide_false, Bool.and_true, Bool.true_and, Bool.and_false, Bool.false_and, Bool.and_self, Bool.or_true, Bool.true_or, Bool.or_false, Bool.false_or, Bool.not_true, Bool.not_false, cond_true, cond_false, bI_t, bI_f, Bool.false_eq_true, Bool.true_eq_false, dayC_1, dayC_21, dayC_221, dayC_222, w01, wP, wPL, wP01, wL01, wRow, w01R, wAB, wNum, isP, isL]; done)
    refine A_iret dX9_ways_16 rfl ⟨_, rfl, (by rw [ew]; exact rV_n (by decide)), _, (by rw [ew]; first | (rw [rS_0]; exact O0) | exact O0), O20, hf⟩
set_option maxHeartbeats 4000000 in
set_option maxRecDepth 100000 in
theorem S_X9_onTray (X : En) (l : Launch) {h : Hp} {x : PW} {g : Int32} {r : FI} (O0 : h 0 = some (maB g r)) (O1 : h 1 = some (wB 1 x)) (hW : WOK x)  {y26 : PC} {s : Nat → Int64} {g25 : FI} (O25 : h 25 = some (foB s g25)) (O26 : h 26 = some (cB 26 y26)) {p : Int32} : Ct X l mX9_onTray [aR 0 0, aI p] h (QI (fun vr h2 => (rV (wP x p) (SP x (pk x p))) = vr ∧ ∃ (z26 : PC), h2 (0) = some (maB g (rS (wP x p) r)) ∧ h2 (26) = some (cB 26 z26) ∧ ∀ i, i ≠ 0 → i ≠ 26 → h2 i = h i)) := by
  have hx := hW.1
  have hp := hW.2.1
  have h10 := hx.1
  have hf : ∀ i, i ≠ 0 → i ≠ 26 → h i = h i := fun _ _ _ => rfl
  refine Ct.intro [some (aR 0 0), some (aI p)] (by decide +kernel) rfl (Nat.le_of_ble_eq_true rfl) ?_
  refine A_aload_n 1 dX9_onTray_0 rfl rfl rfl ?_
  refine A_getfield 4 dX9_onTray_1 rfl f_X9_10 O0 rfl ?_
  refine A_iload_n 5 dX9_onTray_4 rfl rfl rfl ?_
  refine A_callVI 8 (S_X8_isPerson X l (by first | assumption | decide | omega | exact Ne.symm (by assumption))) dX9_onTray_5 rfl kX8_isPerson lk_X9_119 rfl O1 (by decide) rfl (Nat.le_of_ble_eq_true rfl) (fun v_1 h_1 qh_1 => ?_)
  obtain ⟨rfl, rfl⟩ := qh_1
  refine A_if_ne 17 11 dX9_onTray_8 (by decide) rfl (fun c8 => ?_) (fun c8 => ?_)
  · skip
    try simp only [bI_0, bI_n0, Classical.not_not, Bool.not_eq_false, Bool.true_and, Bool.and_true, decide_eq_true_eq, decide_eq_false_iff_not, dayC_1, dayC_21, dayC_221, dayC_222] at c8
    obtain ⟨k_p, rfl, hk_p⟩ := inN_ex c8 (by omega)
    have cl_p : (nI k_p).toNatClampNeg = k_p := nI_clamp (by omega)
    refine A_aload_n 18 dX9_onTray_17 rfl rfl rfl ?_
    refine A_getfield 21 dX9_onTray_18 rfl f_X9_75 O0 rfl ?_
    refine A_aload_n 22 dX9_onTray_21 rfl rfl rfl ?_
    refine A_getfield 25 dX9_onTray_22 rfl f_X9_10 O0 rfl ?_
    refine A_aload_n 26 dX9_onTray_25 rfl rfl rfl ?_
    refine A_getfield 29 dX9_onTray_26 rfl f_X9_10 O0 rfl ?_
    refine A_iload_n 30 dX9_onTray_29 rfl rfl rfl ?_
    refine A_callVI 33 (S_X8_pocketsOf X l (by first | assumption | decide | omega | exact Ne.symm (by assumption)) (by first | assumption | decide | omega | exact Ne.symm (by assumption))) dX9_onTray_30 rfl kX8_pocketsOf lk_X9_122 rfl O1 (by decide) rfl (Nat.le_of_ble_eq_true rfl) (fun v_2 h_2 qh_2 => ?_)
    obtain ⟨rfl, rfl⟩ := qh_2
    refine A_callVI 36 (S_X2_spurs X l (by first | assumption | decide | omega | exact Ne.symm (by assumption)) (by first | assumption | decide | omega | exact Ne.symm (by assumption)) (by first | assumption | decide | omega | exact Ne.symm (by assumption)) (by first | assumption | decide | omega | exact Ne.symm (by assumption)) (by first | assumption | decide | omega | exact Ne.symm (by assumption))) dX9_onTray_33 rfl kX2_spurs lk_X9_265 rfl O25 (by decide) rfl (Nat.le_of_ble_eq_true rfl) (fun v_3 h_3 qh_3 => ?_)
    obtain ⟨rfl, y1_3, n0h_3, eh_3⟩ := qh_3
    replace O0 := (eh_3 _ (by decide)).trans O0
    replace O1 := (eh_3 _ (by decide)).trans O1
    replace O25 := (eh_3 _ (by decide)).trans O25
    replace O26 := n0h_3
    replace hf : ∀ i, i ≠ 0 → i ≠ 26 → h_3 i = h i := fun i g0 g1 => (eh_3 i g1).trans (hf i g0 g1)
    have ew : wP x (nI k_p) = 0 := by
      first | (simp only [c8, cl_p, if_true, if_false, ite_true, ite_false, and_true, true_and, and_false, false_and, and_self, or_true, true_or, or_false, false_or, or_self, not_true_eq_false, not_false_eq_true, decide_true, decide_false, Bool.and_true, Bool.true_and, Bool.and_false, Bool.false_and, Bool.and_self, Bool.or_true, Bool.true_or, Bool.or_false, Bool.false_or, Bool.not_true, Bool.not_false, cond_true, cond_false, bI_t, bI_f, Bool.false_eq_true, Bool.true_eq_false, dayC_1, dayC_21, dayC_221, dayC_222, w01, wP, wPL, wP01, wL01, wRow, w01R, wAB, wNum, isP, isL]; done)
    refine A_iret dX9_onTray_36 rfl ⟨_, rfl, (by rw [ew, rV_0]; first | (simp only [c8, cl_p, if_true, if_false, ite_true, ite_false, and_true, true_and, and_false, false_and, and_self, or_true, true_or, or_false, false_or, or_self, not_true_eq_false, not_false_eq_true, decide_true, decide_false, Bool.and_true, Bool.true_and, Bool.and_false, Bool.false_and, Bool.and_self, Bool.or_true, Bool.true_or, Bool.or_false, Bool.false_or, Bool.not_true, Bool.not_false, cond_true, cond_false, bI_t, bI_f, Bool.false_eq_true, Bool.true_eq_false, dayC_1, dayC_21, dayC_221, dayC_222, pk]; done) | (simp [pk, *]; done)), _, (by rw [ew]; first | (rw [rS_0]; exact O0) | exact O0), O26, hf⟩
  · skip
    try simp only [bI_0, bI_n0, Classical.not_not, Bool.not_eq_false, Bool.true_and, Bool.and_true, decide_eq_true_eq, decide_eq_false_iff_not, dayC_1, dayC_21, dayC_221, dayC_222] at c8
    refine A_aload_n 12 dX9_onTray_11 rfl rfl rfl ?_
    refine A_iconst 13 (-1) dX9_onTray_12 rfl (by decide) ?_
    refine A_callVI 16 (S_X9_refuse X l (by first | assumption | decide | omega | exact Ne.symm (by assumption)) (by first | assumption | (unfold CD; decide))) dX9_onTray_13 rfl kX9_refuse lk_X9_79 rfl O0 (by decide) rfl (Nat.le_of_ble_eq_true rfl) (fun v_4 h_4 qh_4 => ?_)
    obtain ⟨rfl, n0h_4, eh_4⟩ := qh_4
    replace O0 := n0h_4
    replace O1 := (eh_4 _ (by decide)).trans O1
    replace O25 := (eh_4 _ (by decide)).trans O25
    replace O26 := (eh_4 _ (by decide)).trans O26
    replace hf : ∀ i, i ≠ 0 → i ≠ 26 → h_4 i = h i := fun i g0 g1 => (eh_4 i g0).trans (hf i g0 g1)
    have ew : wP x p = -1 := by
      first | (simp only [c8, if_true, if_false, ite_true, ite_false, and_true, true_and, and_false, false_and, and_self, or_true, true_or, or_false, false_or, or_self, not_true_eq_false, not_false_eq_true, decide_true, decide_false, Bool.and_true, Bool.true_and, Bool.and_false, Bool.false_and, Bool.and_self, Bool.or_true, Bool.true_or, Bool.or_false, Bool.false_or, Bool.not_true, Bool.not_false, cond_true, cond_false, bI_t, bI_f, Bool.false_eq_true, Bool.true_eq_false, dayC_1, dayC_21, dayC_221, dayC_222, w01, wP, wPL, wP01, wL01, wRow, w01R, wAB, wNum, isP, isL]; done)
    refine A_iret dX9_onTray_16 rfl ⟨_, rfl, (by rw [ew]; exact rV_n (by decide)), _, (by rw [ew]; first | (rw [rS_0]; exact O0) | exact O0), O26, hf⟩
