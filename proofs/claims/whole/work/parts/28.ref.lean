/-! the reference's ways of asking, fourth lot -/
theorem draw_eq (v : Int32) : (v &&& 2147483647) / 65536 = ((v &&& 2147483647).toUInt32 >>> ((16 : Int32).toUInt32 &&& Int32.toUInt32 31)).toInt32 := by
  have hm : ∃ m, m < 2 ^ 31 ∧ v &&& 2147483647 = nI m := by
    refine ⟨v.toBitVec.toNat &&& 2147483647, Nat.lt_of_le_of_lt Nat.and_le_right (by decide), ?_⟩
    rw [← Int32.toBitVec_inj]
    show v.toBitVec &&& BitVec.ofNat 32 2147483647 = BitVec.ofNat 32 (v.toBitVec.toNat &&& 2147483647)
    rw [BitVec.ofNat_and]
    congr 1
    simp
  obtain ⟨m, hm, e⟩ := hm
  rw [e]
  obtain ⟨m2, hm2, e2, e3, _⟩ := i32_tdiv 65536 (by decide) (by decide) (nI_pos hm)
  rw [show (65536 : Int32) = nI 65536 from rfl, e3]
  have e4 : m = m2 := (ninj hm hm2).mp e2
  subst e4
  rw [← Int32.toBitVec_inj]
  show BitVec.ofNat 32 (m / 65536) = BitVec.ofNat 32 m >>> 16
  apply BitVec.eq_of_toNat_eq
  rw [BitVec.toNat_ushiftRight, BitVec.toNat_ofNat, BitVec.toNat_ofNat, Nat.mod_eq_of_lt (by omega), Nat.mod_eq_of_lt (by omega), Nat.shiftRight_eq_div_pow]
theorem zT_n (v : Int32) : ∃ k, k < 8 ∧ zT v = nI k := by
  have hq : ¬ ((v &&& 2147483647).toUInt32 >>> ((16 : Int32).toUInt32 &&& Int32.toUInt32 31)).toInt32 < 0 := by
    rw [← draw_eq]
    have hm : ∃ m, m < 2 ^ 31 ∧ v &&& 2147483647 = nI m := by
      refine ⟨v.toBitVec.toNat &&& 2147483647, Nat.lt_of_le_of_lt Nat.and_le_right (by decide), ?_⟩
      rw [← Int32.toBitVec_inj]
      show v.toBitVec &&& BitVec.ofNat 32 2147483647 = BitVec.ofNat 32 (v.toBitVec.toNat &&& 2147483647)
      rw [BitVec.ofNat_and]
      congr 1
      simp
    obtain ⟨m, hm, e⟩ := hm
    obtain ⟨m2, hm2, e2, e3, _⟩ := i32_tdiv 65536 (by decide) (by decide) (nI_pos hm)
    rw [e, show (65536 : Int32) = nI 65536 from rfl, e3]
    exact nI_pos (by have := Nat.div_le_self m2 65536; omega)
  obtain ⟨m, hm, _, _, e⟩ := i32_tdiv 8 (by decide) (by decide) hq
  exact ⟨m % 8, Nat.mod_lt _ (by decide), e⟩
theorem zT_T (v : Int32) : inT (zT v) = true := by
  obtain ⟨k, hk, e⟩ := zT_n v
  rw [e]
  exact inT_nI hk
theorem zT_tb (v : Int32) : (1 : Int32) <<< (zT v &&& 31) = tbI (zT v) := by
  obtain ⟨k, hk, e⟩ := zT_n v
  rw [e]
  exact sh_tb hk
set_option maxHeartbeats 4000000 in
set_option maxRecDepth 100000 in
theorem S_X10_dropped (X : En) (l : Launch) {h : Hp} {x : PW} {c : RC} {z : RZ} (O28 : h 28 = some (rB x (-1) c z)) (hW : WOK x)  {p : Int32} : Ct X l mX10_dropped [aR 28 0, aI p] h (QI (fun vr h2 => (rV (wP x p) (aDrop x p)) = vr ∧ ∃ (z1 : RZ), h2 (28) = some (rB x (-1) (rS (wP x p) c.1, c.2) z1) ∧ ∀ i, i ≠ 28 → h2 i = h i)) := by
  have hx := hW.1
  have hp := hW.2.1
  have h10 := hx.1
  have hf : ∀ i, i ≠ 28 → h i = h i := fun _ _ => rfl
  refine Ct.intro [some (aR 28 0), some (aI p), none, none, none, none, none] (by decide +kernel) rfl (Nat.le_of_ble_eq_true rfl) ?_
  refine A_aload_n 1 dX10_dropped_0 rfl rfl rfl ?_
  refine A_iconst 2 (0) dX10_dropped_1 rfl (by decide) ?_
  refine P_X10_9 5 dX10_dropped_2 rfl fw_X10_78 O28 (fun h_1 nh_1 eh_1 => ?_)
  replace O28 := nh_1
  replace hf : ∀ i, i ≠ 28 → h_1 i = h i := fun i g0 => (eh_1 i g0).trans (hf i g0)
  try dsimp only at O28
  refine A_aload_n 6 dX10_dropped_5 rfl rfl rfl ?_
  refine A_iload_n 7 dX10_dropped_6 rfl rfl rfl ?_
  refine A_callVI 10 (S_X10_isOne X l (by first | assumption | decide | omega | exact Ne.symm (by assumption)) (by first | assumption | decide | omega | exact Ne.symm (by assumption))) dX10_dropped_7 rfl kX10_isOne lk_X10_160 rfl O28 (by decide) rfl (Nat.le_of_ble_eq_true rfl) (fun v_2 h_2 qh_2 => ?_)
  obtain ⟨rfl, rfl⟩ := qh_2
  refine A_if_ne 19 13 dX10_dropped_10 (by decide) rfl (fun c10 => ?_) (fun c10 => ?_)
  · skip
    try simp only [bI_0, bI_n0, Classical.not_not, Bool.not_eq_false, Bool.true_and, Bool.and_true, decide_eq_true_eq, decide_eq_false_iff_not, dayC_1, dayC_21, dayC_221, dayC_222, inI_1, inI_2, inI_3, inI_5, inI_11, inI_16] at c10
    obtain ⟨k_p, rfl, hk_p⟩ := inN_ex c10 (by omega)
    have cl_p : (nI k_p).toNatClampNeg = k_p := nI_clamp (by omega)
    refine A_aload_n 20 dX10_dropped_19 rfl rfl rfl ?_
    refine A_iload_n 21 dX10_dropped_20 rfl rfl rfl ?_
    refine A_callVI 24 (S_X10_doneBy_n X l (by first | assumption | decide | omega | exact Ne.symm (by assumption)) (by first | assumption | decide | omega | exact Ne.symm (by assumption)) (by first | assumption | decide | omega | exact Ne.symm (by assumption))) dX10_dropped_21 rfl kX10_doneBy lk_X10_115 rfl O28 (by decide) rfl (Nat.le_of_ble_eq_true rfl) (fun v_3 h_3 qh_3 => ?_)
    obtain ⟨rfl, n0h_3, eh_3⟩ := qh_3
    replace O28 := n0h_3
    replace hf : ∀ i, i ≠ 28 → h_3 i = h i := fun i g0 => (eh_3 i g0).trans (hf i g0)
    refine A_istore_n 25 dX10_dropped_24 rfl rfl (by decide) (by first | exact (ast_s (ast_1 rfl)) | exact (ast_s ast_k)) ?_
    refine A_bipush 27 (-9) dX10_dropped_25 rfl (by decide) ?_
    refine A_istore_n 28 dX10_dropped_27 rfl rfl (by decide) (by first | exact (ast_s (ast_s (ast_1 rfl))) | exact (ast_s (ast_s ast_k))) ?_
    refine A_bipush 30 (99) dX10_dropped_28 rfl (by decide) ?_
    refine A_istore 32 dX10_dropped_30 rfl (by decide) (by first | exact (ast_s (ast_s (ast_s (ast_1 rfl)))) | exact (ast_s (ast_s (ast_s ast_k)))) ?_
    refine A_iconst 33 (0) dX10_dropped_32 rfl (by decide) ?_
    refine A_istore 35 dX10_dropped_33 rfl (by decide) (by first | exact (ast_s (ast_s (ast_s (ast_s (ast_1 rfl))))) | exact (ast_s (ast_s (ast_s (ast_s ast_k))))) ?_
    have L35 : ∀ (nq i : Nat) (u m : Int32) (g35 : Hp) (nv2 : Int32) (z2 : RZ), (nq + i = x.2.2.1) → (foldN (drF x (x.2.1 k_p)) ((-9, 99)) i = (u, m)) → (g35 28 = some (rB x nv2 c z2)) → (∀ i, i ≠ 28 → g35 i = h i) → Av X l mX10_dropped 35 [some (aR 28 0), some (aI (nI (k_p))), some (aI (dDone x 0 (x.2.1 k_p))), some (aI (u)), some (aI (m)), some (aI (nI (i))), none] [] g35 (QI (fun vr h2 => (rV (wP x (nI k_p)) (aDrop x (nI k_p))) = vr ∧ ∃ (z1 : RZ), h2 (28) = some (rB x (-1) (rS (wP x (nI k_p)) c.1, c.2) z1) ∧ ∀ i, i ≠ 28 → h2 i = h i)) := by
      intro nq
      induction nq using Nat.strongRecOn with
      | _ nq ih =>
      intro i u m g35 nv2 z2 en ee O28 hf
      refine A_iload 37 dX10_dropped_35 rfl rfl ?_
      refine A_aload_n 38 dX10_dropped_37 rfl rfl rfl ?_
      refine A_getfield 41 dX10_dropped_38 rfl f_X10_88 O28 rfl ?_
      try dsimp only
      refine A_icmp_ge 108 44 dX10_dropped_41 (by decide) rfl (fun c41 => ?_) (fun c41 => ?_)
      · skip
        obtain rfl := (up_ge_T (N := x.2.2.1) c41 rfl (by omega) (by omega)).symm
        refine A_aload_n 109 dX10_dropped_108 rfl rfl rfl ?_
        refine A_iconst 110 (-1) dX10_dropped_109 rfl (by decide) ?_
        refine P_X10_11 113 dX10_dropped_110 rfl fw_X10_28 O28 (fun h_4 nh_4 eh_4 => ?_)
        replace O28 := nh_4
        replace hf : ∀ i, i ≠ 28 → h_4 i = h i := fun i g0 => (eh_4 i g0).trans (hf i g0)
        try dsimp only at O28
        refine A_iload_n 114 dX10_dropped_113 rfl rfl rfl ?_
        have ew : wP x (nI k_p) = 0 := by
          first | (simp only [c10, cl_p, if_true, if_false, ite_true, ite_false, and_true, true_and, and_false, false_and, and_self, or_true, true_or, or_false, false_or, or_self, not_true_eq_false, not_false_eq_true, decide_true, decide_false, Bool.and_true, Bool.true_and, Bool.and_false, Bool.false_and, Bool.and_self, Bool.or_true, Bool.true_or, Bool.or_false, Bool.false_or, Bool.not_true, Bool.not_false, cond_true, cond_false, bI_t, bI_f, Bool.false_eq_true, Bool.true_eq_false, dayC_1, dayC_21, dayC_221, dayC_222, w01, wP, wPL, wP01, wL01, wRow, w01R, wAB, wNum, isP, isL]; done) | exact cl_f
        refine A_iret dX10_dropped_114 rfl ⟨_, rfl, (by rw [ew, rV_0]; unfold aDrop pk; rw [cl_p, ← dr_eq hx, ee]), _, (by rw [ew]; first | (rw [rS_0]; exact O28) | exact O28), hf⟩
      · skip
        have hi := up_ge_F (N := x.2.2.1) c41 rfl (by omega) (by omega)
        obtain ⟨n0, rfl⟩ : ∃ q, nq = q + 1 := ⟨nq - 1, by omega⟩
        refine A_iload_n 45 dX10_dropped_44 rfl rfl rfl ?_
        refine A_iload 47 dX10_dropped_45 rfl rfl ?_
        refine A_callSI 50 (S_X10_hasBit X l) dX10_dropped_47 rfl kX10_hasBit lk_X10_93 rfl (by decide) rfl (Nat.le_of_ble_eq_true rfl) (fun v_5 h_5 qh_5 => ?_)
        obtain ⟨rfl, rfl⟩ := qh_5
        refine A_if_ne 56 53 dX10_dropped_50 (by decide) rfl (fun c50 => ?_) (fun c50 => ?_)
        · skip
          try simp only [bI_0, bI_n0, Classical.not_not, Bool.not_eq_false, Bool.true_and, Bool.and_true, decide_eq_true_eq, decide_eq_false_iff_not, dayC_1, dayC_21, dayC_221, dayC_222, inI_1, inI_2, inI_3, inI_5, inI_11, inI_16] at c50
          refine A_aload_n 57 dX10_dropped_56 rfl rfl rfl ?_
          refine A_iload 59 dX10_dropped_57 rfl rfl ?_
          refine P_X10_11 62 dX10_dropped_59 rfl fw_X10_28 O28 (fun h_6 nh_6 eh_6 => ?_)
          replace O28 := nh_6
          replace hf : ∀ i, i ≠ 28 → h_6 i = h i := fun i g0 => (eh_6 i g0).trans (hf i g0)
          try dsimp only at O28
          refine A_aload_n 63 dX10_dropped_62 rfl rfl rfl ?_
          refine A_iload_n 64 dX10_dropped_63 rfl rfl rfl ?_
          refine A_callVI 67 (S_X10_doneBy X l O28 hx (Or.inr ⟨i, by omega, rfl⟩) (by omega)) dX10_dropped_64 rfl kX10_doneBy lk_X10_115 rfl O28 (by decide) rfl (Nat.le_of_ble_eq_true rfl) (fun v_7 h_7 qh_7 => ?_)
          obtain ⟨rfl, n0h_7, eh_7⟩ := qh_7
          replace O28 := n0h_7
          replace hf : ∀ i, i ≠ 28 → h_7 i = h i := fun i g0 => (eh_7 i g0).trans (hf i g0)
          rw [nvB_i (by omega)]
          refine A_callSI 70 (S_X10_onesOf_r X l (by first | assumption | exact R10.nI (by omega) | exact dDone_R (by assumption) _ _ | exact R8.r10 (by assumption) | exact (WOK_pk (by assumption) (by omega)).r10 | exact (WOK_tr (by assumption)).r10 | exact R10_and _ (dDone_R (by assumption) _ _))) dX10_dropped_67 rfl kX10_onesOf lk_X10_112 rfl (by decide) rfl (Nat.le_of_ble_eq_true rfl) (fun v_8 h_8 qh_8 => ?_)
          obtain ⟨rfl, rfl⟩ := qh_8
          refine A_istore 72 dX10_dropped_70 rfl (by decide) (by first | exact (ast_s (ast_s (ast_s (ast_s (ast_s (ast_1 rfl)))))) | exact (ast_s (ast_s (ast_s (ast_s (ast_s ast_k)))))) ?_
          refine A_iload 74 dX10_dropped_72 rfl rfl ?_
          refine A_iload 76 dX10_dropped_74 rfl rfl ?_
          refine A_icmp_ge 84 79 dX10_dropped_76 (by decide) rfl (fun c76 => ?_) (fun c76 => ?_)
          · skip
            try simp only [bI_0, bI_n0, Classical.not_not, Bool.not_eq_false, Bool.true_and, Bool.and_true, decide_eq_true_eq, decide_eq_false_iff_not, dayC_1, dayC_21, dayC_221, dayC_222, inI_1, inI_2, inI_3, inI_5, inI_11, inI_16] at c76
            have n76 := c76
            replace c76 := Int32.not_lt.mpr c76
            refine A_iload_n 85 dX10_dropped_84 rfl rfl rfl ?_
            refine A_istore_n 86 dX10_dropped_85 rfl rfl (by decide) (by first | exact (ast_s (ast_s (ast_1 rfl))) | exact (ast_s (ast_s ast_k))) ?_
            refine A_iload 88 dX10_dropped_86 rfl rfl ?_
            refine A_iload 90 dX10_dropped_88 rfl rfl ?_
            refine A_icmp_ge 98 93 dX10_dropped_90 (by decide) rfl (fun c90 => ?_) (fun c90 => ?_)
            · skip
              try simp only [bI_0, bI_n0, Classical.not_not, Bool.not_eq_false, Bool.true_and, Bool.and_true, decide_eq_true_eq, decide_eq_false_iff_not, dayC_1, dayC_21, dayC_221, dayC_222, inI_1, inI_2, inI_3, inI_5, inI_11, inI_16] at c90
              have n90 := c90
              replace c90 := Int32.not_lt.mpr c90
              refine A_iload 100 dX10_dropped_98 rfl rfl ?_
              refine A_istore 102 dX10_dropped_100 rfl (by decide) (by first | exact (ast_s (ast_s (ast_s (ast_1 rfl)))) | exact (ast_s (ast_s (ast_s ast_k)))) ?_
              first | refine A_iincN 105 dX10_dropped_102 rfl rfl (by decide) (by first | exact (ast_s (ast_s (ast_s (ast_s (ast_1 rfl))))) | exact (ast_s (ast_s (ast_s (ast_s ast_k))))) ?_ | refine A_iinc 105 (1) dX10_dropped_102 rfl rfl (by decide) (by decide) (by first | exact (ast_s (ast_s (ast_s (ast_s (ast_1 rfl))))) | exact (ast_s (ast_s (ast_s (ast_s ast_k))))) ?_
              refine A_goto 35 dX10_dropped_105 (by decide) ?_
              exact A_weak (ih n0 (Nat.lt_succ_self n0) (i + 1) _ _ h_7 _ _ (by omega) ((foldN_s (drF x (x.2.1 k_p)) ((-9, 99)) i).trans ((congrArg ((drF x (x.2.1 k_p)) i) ee).trans (by first | with_reducible rfl | (simp only [c10, cl_p, c50, c76, n76, c90, n90, if_true, if_false, ite_true, ite_false, and_true, true_and, and_false, false_and, and_self, or_true, true_or, or_false, false_or, or_self, not_true_eq_false, not_false_eq_true, decide_true, decide_false, Bool.and_true, Bool.true_and, Bool.and_false, Bool.false_and, Bool.and_self, Bool.or_true, Bool.true_or, Bool.or_false, Bool.false_or, Bool.not_true, Bool.not_false, cond_true, cond_false, bI_t, bI_f, Bool.false_eq_true, Bool.true_eq_false, dayC_1, dayC_21, dayC_221, dayC_222, drF]; done) | (with_reducible first | exact absurd c10 c50 | exact absurd c10 c76 | exact absurd c10 c90 | exact absurd c10 hy | exact absurd c10 hyb | exact absurd c50 c10 | exact absurd c50 c76 | exact absurd c50 c90 | exact absurd c50 hy | exact absurd c50 hyb | exact absurd c76 c10 | exact absurd c76 c50 | exact absurd c76 c90 | exact absurd c76 hy | exact absurd c76 hyb | exact absurd c90 c10 | exact absurd c90 c50 | exact absurd c90 c76 | exact absurd c90 hy | exact absurd c90 hyb | exact absurd hy c10 | exact absurd hy c50 | exact absurd hy c76 | exact absurd hy c90 | exact absurd hy hyb | exact absurd hyb c10 | exact absurd hyb c50 | exact absurd hyb c76 | exact absurd hyb c90 | exact absurd hyb hy | (rw [c10] at c50; cases c50) | (rw [c10] at c76; cases c76) | (rw [c10] at c90; cases c90) | (rw [c50] at c10; cases c10) | (rw [c50] at c76; cases c76) | (rw [c50] at c90; cases c90) | (rw [c76] at c10; cases c10) | (rw [c76] at c50; cases c50) | (rw [c76] at c90; cases c90) | (rw [c90] at c10; cases c10) | (rw [c90] at c50; cases c50) | (rw [c90] at c76; cases c76)) | (simp [*, drF]; done) | with_reducible_and_instances rfl))) O28 hf) (sub_s (sub_s (sub_s (sub_s (sub_s (sub_s (sub_n sub_nil)))))))
            · skip
              try simp only [bI_0, bI_n0, Classical.not_not, Bool.not_eq_false, Bool.true_and, Bool.and_true, decide_eq_true_eq, decide_eq_false_iff_not, dayC_1, dayC_21, dayC_221, dayC_222, inI_1, inI_2, inI_3, inI_5, inI_11, inI_16] at c90
              have n90 := c90
              replace c90 := Int32.not_le.mp c90
              refine A_iload 95 dX10_dropped_93 rfl rfl ?_
              refine A_goto 100 dX10_dropped_95 (by decide) ?_
              refine A_istore 102 dX10_dropped_100 rfl (by decide) (by first | exact (ast_s (ast_s (ast_s (ast_1 rfl)))) | exact (ast_s (ast_s (ast_s ast_k)))) ?_
              first | refine A_iincN 105 dX10_dropped_102 rfl rfl (by decide) (by first | exact (ast_s (ast_s (ast_s (ast_s (ast_1 rfl))))) | exact (ast_s (ast_s (ast_s (ast_s ast_k))))) ?_ | refine A_iinc 105 (1) dX10_dropped_102 rfl rfl (by decide) (by decide) (by first | exact (ast_s (ast_s (ast_s (ast_s (ast_1 rfl))))) | exact (ast_s (ast_s (ast_s (ast_s ast_k))))) ?_
              refine A_goto 35 dX10_dropped_105 (by decide) ?_
              exact A_weak (ih n0 (Nat.lt_succ_self n0) (i + 1) _ _ h_7 _ _ (by omega) ((foldN_s (drF x (x.2.1 k_p)) ((-9, 99)) i).trans ((congrArg ((drF x (x.2.1 k_p)) i) ee).trans (by first | with_reducible rfl | (simp only [c10, cl_p, c50, c76, n76, c90, n90, if_true, if_false, ite_true, ite_false, and_true, true_and, and_false, false_and, and_self, or_true, true_or, or_false, false_or, or_self, not_true_eq_false, not_false_eq_true, decide_true, decide_false, Bool.and_true, Bool.true_and, Bool.and_false, Bool.false_and, Bool.and_self, Bool.or_true, Bool.true_or, Bool.or_false, Bool.false_or, Bool.not_true, Bool.not_false, cond_true, cond_false, bI_t, bI_f, Bool.false_eq_true, Bool.true_eq_false, dayC_1, dayC_21, dayC_221, dayC_222, drF]; done) | (with_reducible first | exact absurd c10 c50 | exact absurd c10 c76 | exact absurd c10 c90 | exact absurd c10 hy | exact absurd c10 hyb | exact absurd c50 c10 | exact absurd c50 c76 | exact absurd c50 c90 | exact absurd c50 hy | exact absurd c50 hyb | exact absurd c76 c10 | exact absurd c76 c50 | exact absurd c76 c90 | exact absurd c76 hy | exact absurd c76 hyb | exact absurd c90 c10 | exact absurd c90 c50 | exact absurd c90 c76 | exact absurd c90 hy | exact absurd c90 hyb | exact absurd hy c10 | exact absurd hy c50 | exact absurd hy c76 | exact absurd hy c90 | exact absurd hy hyb | exact absurd hyb c10 | exact absurd hyb c50 | exact absurd hyb c76 | exact absurd hyb c90 | exact absurd hyb hy | (rw [c10] at c50; cases c50) | (rw [c10] at c76; cases c76) | (rw [c10] at c90; cases c90) | (rw [c50] at c10; cases c10) | (rw [c50] at c76; cases c76) | (rw [c50] at c90; cases c90) | (rw [c76] at c10; cases c10) | (rw [c76] at c50; cases c50) | (rw [c76] at c90; cases c90) | (rw [c90] at c10; cases c10) | (rw [c90] at c50; cases c50) | (rw [c90] at c76; cases c76)) | (simp [*, drF]; done) | with_reducible_and_instances rfl))) O28 hf) (sub_s (sub_s (sub_s (sub_s (sub_s (sub_s (sub_n sub_nil)))))))
          · skip
            try simp only [bI_0, bI_n0, Classical.not_not, Bool.not_eq_false, Bool.true_and, Bool.and_true, decide_eq_true_eq, decide_eq_false_iff_not, dayC_1, dayC_21, dayC_221, dayC_222, inI_1, inI_2, inI_3, inI_5, inI_11, inI_16] at c76
            have n76 := c76
            replace c76 := Int32.not_le.mp c76
            refine A_iload 81 dX10_dropped_79 rfl rfl ?_
            refine A_goto 85 dX10_dropped_81 (by decide) ?_
            refine A_istore_n 86 dX10_dropped_85 rfl rfl (by decide) (by first | exact (ast_s (ast_s (ast_1 rfl))) | exact (ast_s (ast_s ast_k))) ?_
            refine A_iload 88 dX10_dropped_86 rfl rfl ?_
            refine A_iload 90 dX10_dropped_88 rfl rfl ?_
            refine A_icmp_ge 98 93 dX10_dropped_90 (by decide) rfl (fun c90 => ?_) (fun c90 => ?_)
            · skip
              try simp only [bI_0, bI_n0, Classical.not_not, Bool.not_eq_false, Bool.true_and, Bool.and_true, decide_eq_true_eq, decide_eq_false_iff_not, dayC_1, dayC_21, dayC_221, dayC_222, inI_1, inI_2, inI_3, inI_5, inI_11, inI_16] at c90
              have n90 := c90
              replace c90 := Int32.not_lt.mpr c90
              refine A_iload 100 dX10_dropped_98 rfl rfl ?_
              refine A_istore 102 dX10_dropped_100 rfl (by decide) (by first | exact (ast_s (ast_s (ast_s (ast_1 rfl)))) | exact (ast_s (ast_s (ast_s ast_k)))) ?_
              first | refine A_iincN 105 dX10_dropped_102 rfl rfl (by decide) (by first | exact (ast_s (ast_s (ast_s (ast_s (ast_1 rfl))))) | exact (ast_s (ast_s (ast_s (ast_s ast_k))))) ?_ | refine A_iinc 105 (1) dX10_dropped_102 rfl rfl (by decide) (by decide) (by first | exact (ast_s (ast_s (ast_s (ast_s (ast_1 rfl))))) | exact (ast_s (ast_s (ast_s (ast_s ast_k))))) ?_
              refine A_goto 35 dX10_dropped_105 (by decide) ?_
              exact A_weak (ih n0 (Nat.lt_succ_self n0) (i + 1) _ _ h_7 _ _ (by omega) ((foldN_s (drF x (x.2.1 k_p)) ((-9, 99)) i).trans ((congrArg ((drF x (x.2.1 k_p)) i) ee).trans (by first | with_reducible rfl | (simp only [c10, cl_p, c50, c76, n76, c90, n90, if_true, if_false, ite_true, ite_false, and_true, true_and, and_false, false_and, and_self, or_true, true_or, or_false, false_or, or_self, not_true_eq_false, not_false_eq_true, decide_true, decide_false, Bool.and_true, Bool.true_and, Bool.and_false, Bool.false_and, Bool.and_self, Bool.or_true, Bool.true_or, Bool.or_false, Bool.false_or, Bool.not_true, Bool.not_false, cond_true, cond_false, bI_t, bI_f, Bool.false_eq_true, Bool.true_eq_false, dayC_1, dayC_21, dayC_221, dayC_222, drF]; done) | (with_reducible first | exact absurd c10 c50 | exact absurd c10 c76 | exact absurd c10 c90 | exact absurd c10 hy | exact absurd c10 hyb | exact absurd c50 c10 | exact absurd c50 c76 | exact absurd c50 c90 | exact absurd c50 hy | exact absurd c50 hyb | exact absurd c76 c10 | exact absurd c76 c50 | exact absurd c76 c90 | exact absurd c76 hy | exact absurd c76 hyb | exact absurd c90 c10 | exact absurd c90 c50 | exact absurd c90 c76 | exact absurd c90 hy | exact absurd c90 hyb | exact absurd hy c10 | exact absurd hy c50 | exact absurd hy c76 | exact absurd hy c90 | exact absurd hy hyb | exact absurd hyb c10 | exact absurd hyb c50 | exact absurd hyb c76 | exact absurd hyb c90 | exact absurd hyb hy | (rw [c10] at c50; cases c50) | (rw [c10] at c76; cases c76) | (rw [c10] at c90; cases c90) | (rw [c50] at c10; cases c10) | (rw [c50] at c76; cases c76) | (rw [c50] at c90; cases c90) | (rw [c76] at c10; cases c10) | (rw [c76] at c50; cases c50) | (rw [c76] at c90; cases c90) | (rw [c90] at c10; cases c10) | (rw [c90] at c50; cases c50) | (rw [c90] at c76; cases c76)) | (simp [*, drF]; done) | with_reducible_and_instances rfl))) O28 hf) (sub_s (sub_s (sub_s (sub_s (sub_s (sub_s (sub_n sub_nil)))))))
            · skip
              try simp only [bI_0, bI_n0, Classical.not_not, Bool.not_eq_false, Bool.true_and, Bool.and_true, decide_eq_true_eq, decide_eq_false_iff_not, dayC_1, dayC_21, dayC_221, dayC_222, inI_1, inI_2, inI_3, inI_5, inI_11, inI_16] at c90
              have n90 := c90
              replace c90 := Int32.not_le.mp c90
              refine A_iload 95 dX10_dropped_93 rfl rfl ?_
              refine A_goto 100 dX10_dropped_95 (by decide) ?_
              refine A_istore 102 dX10_dropped_100 rfl (by decide) (by first | exact (ast_s (ast_s (ast_s (ast_1 rfl)))) | exact (ast_s (ast_s (ast_s ast_k)))) ?_
              first | refine A_iincN 105 dX10_dropped_102 rfl rfl (by decide) (by first | exact (ast_s (ast_s (ast_s (ast_s (ast_1 rfl))))) | exact (ast_s (ast_s (ast_s (ast_s ast_k))))) ?_ | refine A_iinc 105 (1) dX10_dropped_102 rfl rfl (by decide) (by decide) (by first | exact (ast_s (ast_s (ast_s (ast_s (ast_1 rfl))))) | exact (ast_s (ast_s (ast_s (ast_s ast_k))))) ?_
              refine A_goto 35 dX10_dropped_105 (by decide) ?_
              exact A_weak (ih n0 (Nat.lt_succ_self n0) (i + 1) _ _ h_7 _ _ (by omega) ((foldN_s (drF x (x.2.1 k_p)) ((-9, 99)) i).trans ((congrArg ((drF x (x.2.1 k_p)) i) ee).trans (by first | with_reducible rfl | (simp only [c10, cl_p, c50, c76, n76, c90, n90, if_true, if_false, ite_true, ite_false, and_true, true_and, and_false, false_and, and_self, or_true, true_or, or_false, false_or, or_self, not_true_eq_false, not_false_eq_true, decide_true, decide_false, Bool.and_true, Bool.true_and, Bool.and_false, Bool.false_and, Bool.and_self, Bool.or_true, Bool.true_or, Bool.or_false, Bool.false_or, Bool.not_true, Bool.not_false, cond_true, cond_false, bI_t, bI_f, Bool.false_eq_true, Bool.true_eq_false, dayC_1, dayC_21, dayC_221, dayC_222, drF]; done) | (with_reducible first | exact absurd c10 c50 | exact absurd c10 c76 | exact absurd c10 c90 | exact absurd c10 hy | exact absurd c10 hyb | exact absurd c50 c10 | exact absurd c50 c76 | exact absurd c50 c90 | exact absurd c50 hy | exact absurd c50 hyb | exact absurd c76 c10 | exact absurd c76 c50 | exact absurd c76 c90 | exact absurd c76 hy | exact absurd c76 hyb | exact absurd c90 c10 | exact absurd c90 c50 | exact absurd c90 c76 | exact absurd c90 hy | exact absurd c90 hyb | exact absurd hy c10 | exact absurd hy c50 | exact absurd hy c76 | exact absurd hy c90 | exact absurd hy hyb | exact absurd hyb c10 | exact absurd hyb c50 | exact absurd hyb c76 | exact absurd hyb c90 | exact absurd hyb hy | (rw [c10] at c50; cases c50) | (rw [c10] at c76; cases c76) | (rw [c10] at c90; cases c90) | (rw [c50] at c10; cases c10) | (rw [c50] at c76; cases c76) | (rw [c50] at c90; cases c90) | (rw [c76] at c10; cases c10) | (rw [c76] at c50; cases c50) | (rw [c76] at c90; cases c90) | (rw [c90] at c10; cases c10) | (rw [c90] at c50; cases c50) | (rw [c90] at c76; cases c76)) | (simp [*, drF]; done) | with_reducible_and_instances rfl))) O28 hf) (sub_s (sub_s (sub_s (sub_s (sub_s (sub_s (sub_n sub_nil)))))))
        · skip
          try simp only [bI_0, bI_n0, Classical.not_not, Bool.not_eq_false, Bool.true_and, Bool.and_true, decide_eq_true_eq, decide_eq_false_iff_not, dayC_1, dayC_21, dayC_221, dayC_222, inI_1, inI_2, inI_3, inI_5, inI_11, inI_16] at c50
          refine A_goto 102 dX10_dropped_53 (by decide) ?_
          first | refine A_iincN 105 dX10_dropped_102 rfl rfl (by decide) (by first | exact (ast_s (ast_s (ast_s (ast_s (ast_1 rfl))))) | exact (ast_s (ast_s (ast_s (ast_s ast_k))))) ?_ | refine A_iinc 105 (1) dX10_dropped_102 rfl rfl (by decide) (by decide) (by first | exact (ast_s (ast_s (ast_s (ast_s (ast_1 rfl))))) | exact (ast_s (ast_s (ast_s (ast_s ast_k))))) ?_
          refine A_goto 35 dX10_dropped_105 (by decide) ?_
          exact A_weak (ih n0 (Nat.lt_succ_self n0) (i + 1) _ _ g35 _ _ (by omega) ((foldN_s (drF x (x.2.1 k_p)) ((-9, 99)) i).trans ((congrArg ((drF x (x.2.1 k_p)) i) ee).trans (by first | with_reducible rfl | (simp only [c10, cl_p, c50, if_true, if_false, ite_true, ite_false, and_true, true_and, and_false, false_and, and_self, or_true, true_or, or_false, false_or, or_self, not_true_eq_false, not_false_eq_true, decide_true, decide_false, Bool.and_true, Bool.true_and, Bool.and_false, Bool.false_and, Bool.and_self, Bool.or_true, Bool.true_or, Bool.or_false, Bool.false_or, Bool.not_true, Bool.not_false, cond_true, cond_false, bI_t, bI_f, Bool.false_eq_true, Bool.true_eq_false, dayC_1, dayC_21, dayC_221, dayC_222, drF]; done) | (with_reducible first | exact absurd c10 c50 | exact absurd c10 hy | exact absurd c10 hyb | exact absurd c50 c10 | exact absurd c50 hy | exact absurd c50 hyb | exact absurd hy c10 | exact absurd hy c50 | exact absurd hy hyb | exact absurd hyb c10 | exact absurd hyb c50 | exact absurd hyb hy | (rw [c10] at c50; cases c50) | (rw [c50] at c10; cases c10)) | (simp [*, drF]; done) | with_reducible_and_instances rfl))) O28 hf) (sub_s (sub_s (sub_s (sub_s (sub_s (sub_s (sub_n sub_nil)))))))
    exact A_weak (L35 (x.2.2.1) (0) (_) (_) h_3 (-1) (_) (by omega) (rfl) O28 hf) (sub_s (sub_s (sub_s (sub_s (sub_s (sub_s (sub_n sub_nil)))))))
  · skip
    try simp only [bI_0, bI_n0, Classical.not_not, Bool.not_eq_false, Bool.true_and, Bool.and_true, decide_eq_true_eq, decide_eq_false_iff_not, dayC_1, dayC_21, dayC_221, dayC_222, inI_1, inI_2, inI_3, inI_5, inI_11, inI_16] at c10
    refine A_aload_n 14 dX10_dropped_13 rfl rfl rfl ?_
    refine A_iconst 15 (-1) dX10_dropped_14 rfl (by decide) ?_
    refine A_callVI 18 (S_X10_refuse_c X l (by first | assumption | decide | omega | exact Ne.symm (by assumption)) (by first | assumption | (unfold CD; decide))) dX10_dropped_15 rfl kX10_refuse lk_X10_121 rfl O28 (by decide) rfl (Nat.le_of_ble_eq_true rfl) (fun v_9 h_9 qh_9 => ?_)
    obtain ⟨rfl, n0h_9, eh_9⟩ := qh_9
    replace O28 := n0h_9
    replace hf : ∀ i, i ≠ 28 → h_9 i = h i := fun i g0 => (eh_9 i g0).trans (hf i g0)
    have ew : wP x p = -1 := by
      first | (simp only [c10, if_true, if_false, ite_true, ite_false, and_true, true_and, and_false, false_and, and_self, or_true, true_or, or_false, false_or, or_self, not_true_eq_false, not_false_eq_true, decide_true, decide_false, Bool.and_true, Bool.true_and, Bool.and_false, Bool.false_and, Bool.and_self, Bool.or_true, Bool.true_or, Bool.or_false, Bool.false_or, Bool.not_true, Bool.not_false, cond_true, cond_false, bI_t, bI_f, Bool.false_eq_true, Bool.true_eq_false, dayC_1, dayC_21, dayC_221, dayC_222, w01, wP, wPL, wP01, wL01, wRow, w01R, wAB, wNum, isP, isL]; done) | exact cl_f
    refine A_iret dX10_dropped_18 rfl ⟨_, rfl, (by rw [ew]; exact rV_n (by decide)), _, (by rw [ew]; first | (rw [rS_0]; exact O28) | exact O28), hf⟩
set_option maxHeartbeats 4000000 in
set_option maxRecDepth 100000 in
theorem S_X10_needed (X : En) (l : Launch) {h : Hp} {x : PW} {c : RC} {z : RZ} (O28 : h 28 = some (rB x (-1) c z)) (hW : WOK x)  {p l0 : Int32} : Ct X l mX10_needed [aR 28 0, aI p, aI l0] h (QI (fun vr h2 => (rV (wPL x p l0) (aNeed x p l0)) = vr ∧ ∃ (z1 : RZ), h2 (28) = some (rB x (-1) (rS (wPL x p l0) c.1, c.2) z1) ∧ ∀ i, i ≠ 28 → h2 i = h i)) := by
  have hx := hW.1
  have hp := hW.2.1
  have h10 := hx.1
  have hf : ∀ i, i ≠ 28 → h i = h i := fun _ _ => rfl
  refine Ct.intro [some (aR 28 0), some (aI p), some (aI l0), none, none, none] (by decide +kernel) rfl (Nat.le_of_ble_eq_true rfl) ?_
  refine A_aload_n 1 dX10_needed_0 rfl rfl rfl ?_
  refine A_iconst 2 (0) dX10_needed_1 rfl (by decide) ?_
  refine P_X10_9 5 dX10_needed_2 rfl fw_X10_78 O28 (fun h_1 nh_1 eh_1 => ?_)
  replace O28 := nh_1
  replace hf : ∀ i, i ≠ 28 → h_1 i = h i := fun i g0 => (eh_1 i g0).trans (hf i g0)
  try dsimp only at O28
  refine A_aload_n 6 dX10_needed_5 rfl rfl rfl ?_
  refine A_iload_n 7 dX10_needed_6 rfl rfl rfl ?_
  refine A_callVI 10 (S_X10_isOne X l (by first | assumption | decide | omega | exact Ne.symm (by assumption)) (by first | assumption | decide | omega | exact Ne.symm (by assumption))) dX10_needed_7 rfl kX10_isOne lk_X10_160 rfl O28 (by decide) rfl (Nat.le_of_ble_eq_true rfl) (fun v_2 h_2 qh_2 => ?_)
  obtain ⟨rfl, rfl⟩ := qh_2
  refine A_if_eq 21 13 dX10_needed_10 (by decide) rfl (fun c10 => ?_) (fun c10 => ?_)
  · skip
    try simp only [bI_0, bI_n0, Classical.not_not, Bool.not_eq_false, Bool.true_and, Bool.and_true, decide_eq_true_eq, decide_eq_false_iff_not, dayC_1, dayC_21, dayC_221, dayC_222, inI_1, inI_2, inI_3, inI_5, inI_11, inI_16] at c10
    refine A_aload_n 22 dX10_needed_21 rfl rfl rfl ?_
    refine A_iconst 23 (-1) dX10_needed_22 rfl (by decide) ?_
    refine A_callVI 26 (S_X10_refuse_c X l (by first | assumption | decide | omega | exact Ne.symm (by assumption)) (by first | assumption | (unfold CD; decide))) dX10_needed_23 rfl kX10_refuse lk_X10_121 rfl O28 (by decide) rfl (Nat.le_of_ble_eq_true rfl) (fun v_3 h_3 qh_3 => ?_)
    obtain ⟨rfl, n0h_3, eh_3⟩ := qh_3
    replace O28 := n0h_3
    replace hf : ∀ i, i ≠ 28 → h_3 i = h i := fun i g0 => (eh_3 i g0).trans (hf i g0)
    have ew : wPL x p l0 = -1 := by
      first | (simp only [c10, if_true, if_false, ite_true, ite_false, and_true, true_and, and_false, false_and, and_self, or_true, true_or, or_false, false_or, or_self, not_true_eq_false, not_false_eq_true, decide_true, decide_false, Bool.and_true, Bool.true_and, Bool.and_false, Bool.false_and, Bool.and_self, Bool.or_true, Bool.true_or, Bool.or_false, Bool.false_or, Bool.not_true, Bool.not_false, cond_true, cond_false, bI_t, bI_f, Bool.false_eq_true, Bool.true_eq_false, dayC_1, dayC_21, dayC_221, dayC_222, w01, wP, wPL, wP01, wL01, wRow, w01R, wAB, wNum, isP, isL]; done) | exact cl_f
    refine A_iret dX10_needed_26 rfl ⟨_, rfl, (by rw [ew]; exact rV_n (by decide)), _, (by rw [ew]; first | (rw [rS_0]; exact O28) | exact O28), hf⟩
  · skip
    try simp only [bI_0, bI_n0, Classical.not_not, Bool.not_eq_false, Bool.true_and, Bool.and_true, decide_eq_true_eq, decide_eq_false_iff_not, dayC_1, dayC_21, dayC_221, dayC_222, inI_1, inI_2, inI_3, inI_5, inI_11, inI_16] at c10
    obtain ⟨k_p, rfl, hk_p⟩ := inN_ex c10 (by omega)
    have cl_p : (nI k_p).toNatClampNeg = k_p := nI_clamp (by omega)
    refine A_aload_n 14 dX10_needed_13 rfl rfl rfl ?_
    refine A_iload_n 15 dX10_needed_14 rfl rfl rfl ?_
    refine A_callVI 18 (S_X10_isLaw X l (by first | assumption | decide | omega | exact Ne.symm (by assumption)) (by first | assumption | decide | omega | exact Ne.symm (by assumption))) dX10_needed_15 rfl kX10_isLaw lk_X10_206 rfl O28 (by decide) rfl (Nat.le_of_ble_eq_true rfl) (fun v_4 h_4 qh_4 => ?_)
    obtain ⟨rfl, rfl⟩ := qh_4
    refine A_if_ne 27 21 dX10_needed_18 (by decide) rfl (fun c18 => ?_) (fun c18 => ?_)
    · skip
      try simp only [bI_0, bI_n0, Classical.not_not, Bool.not_eq_false, Bool.true_and, Bool.and_true, decide_eq_true_eq, decide_eq_false_iff_not, dayC_1, dayC_21, dayC_221, dayC_222, inI_1, inI_2, inI_3, inI_5, inI_11, inI_16] at c18
      obtain ⟨k_l0, rfl, hk_l0⟩ := inN_ex c18 (by omega)
      have cl_l0 : (nI k_l0).toNatClampNeg = k_l0 := nI_clamp (by omega)
      refine A_iconst 28 (0) dX10_needed_27 rfl (by decide) ?_
      refine A_istore_n 29 dX10_needed_28 rfl rfl (by decide) (by first | exact (ast_s (ast_s (ast_1 rfl))) | exact (ast_s (ast_s ast_k))) ?_
      refine A_aload_n 30 dX10_needed_29 rfl rfl rfl ?_
      refine A_iload_n 31 dX10_needed_30 rfl rfl rfl ?_
      refine A_callVI 34 (S_X10_doneBy_n X l (by first | assumption | decide | omega | exact Ne.symm (by assumption)) (by first | assumption | decide | omega | exact Ne.symm (by assumption)) (by first | assumption | decide | omega | exact Ne.symm (by assumption))) dX10_needed_31 rfl kX10_doneBy lk_X10_115 rfl O28 (by decide) rfl (Nat.le_of_ble_eq_true rfl) (fun v_5 h_5 qh_5 => ?_)
      obtain ⟨rfl, n0h_5, eh_5⟩ := qh_5
      replace O28 := n0h_5
      replace hf : ∀ i, i ≠ 28 → h_5 i = h i := fun i g0 => (eh_5 i g0).trans (hf i g0)
      refine A_iload_n 35 dX10_needed_34 rfl rfl rfl ?_
      refine A_callSI 38 (S_X10_hasBit X l) dX10_needed_35 rfl kX10_hasBit lk_X10_93 rfl (by decide) rfl (Nat.le_of_ble_eq_true rfl) (fun v_6 h_6 qh_6 => ?_)
      obtain ⟨rfl, rfl⟩ := qh_6
      refine A_istore 40 dX10_needed_38 rfl (by decide) (by first | exact (ast_s (ast_s (ast_s (ast_1 rfl)))) | exact (ast_s (ast_s (ast_s ast_k)))) ?_
      refine A_iconst 41 (0) dX10_needed_40 rfl (by decide) ?_
      refine A_istore 43 dX10_needed_41 rfl (by decide) (by first | exact (ast_s (ast_s (ast_s (ast_s (ast_1 rfl))))) | exact (ast_s (ast_s (ast_s (ast_s ast_k))))) ?_
      have L43 : ∀ (nq i : Nat) (u : Int32) (g43 : Hp) (nv2 : Int32) (z2 : RZ), (nq + i = x.2.2.1) → (foldN (neF x (x.2.1 k_p) (nI k_l0)) (0) i = (u)) → (i = 0 ∨ btI (dDone x 0 (x.2.1 k_p)) (nI k_l0) = true) → (g43 28 = some (rB x nv2 c z2)) → (∀ i, i ≠ 28 → g43 i = h i) → Av X l mX10_needed 43 [some (aR 28 0), some (aI (nI (k_p))), some (aI (nI (k_l0))), some (aI (u)), some (aI (bI (btI (dDone x 0 (x.2.1 k_p)) (nI k_l0)))), some (aI (nI (i)))] [] g43 (QI (fun vr h2 => (rV (wPL x (nI k_p) (nI k_l0)) (aNeed x (nI k_p) (nI k_l0))) = vr ∧ ∃ (z1 : RZ), h2 (28) = some (rB x (-1) (rS (wPL x (nI k_p) (nI k_l0)) c.1, c.2) z1) ∧ ∀ i, i ≠ 28 → h2 i = h i)) := by
        intro nq
        induction nq using Nat.strongRecOn with
        | _ nq ih =>
        intro i u g43 nv2 z2 en ee hy O28 hf
        refine A_iload 45 dX10_needed_43 rfl rfl ?_
        refine A_aload_n 46 dX10_needed_45 rfl rfl rfl ?_
        refine A_getfield 49 dX10_needed_46 rfl f_X10_88 O28 rfl ?_
        try dsimp only
        refine A_icmp_ge 98 52 dX10_needed_49 (by decide) rfl (fun c49 => ?_) (fun c49 => ?_)
        · skip
          obtain rfl := (up_ge_T (N := x.2.2.1) c49 rfl (by omega) (by omega)).symm
          refine A_aload_n 99 dX10_needed_98 rfl rfl rfl ?_
          refine A_iconst 100 (-1) dX10_needed_99 rfl (by decide) ?_
          refine P_X10_11 103 dX10_needed_100 rfl fw_X10_28 O28 (fun h_7 nh_7 eh_7 => ?_)
          replace O28 := nh_7
          replace hf : ∀ i, i ≠ 28 → h_7 i = h i := fun i g0 => (eh_7 i g0).trans (hf i g0)
          try dsimp only at O28
          refine A_iload_n 104 dX10_needed_103 rfl rfl rfl ?_
          have ew : wPL x (nI k_p) (nI k_l0) = 0 := by
            first | (simp only [c10, cl_p, c18, cl_l0, if_true, if_false, ite_true, ite_false, and_true, true_and, and_false, false_and, and_self, or_true, true_or, or_false, false_or, or_self, not_true_eq_false, not_false_eq_true, decide_true, decide_false, Bool.and_true, Bool.true_and, Bool.and_false, Bool.false_and, Bool.and_self, Bool.or_true, Bool.true_or, Bool.or_false, Bool.false_or, Bool.not_true, Bool.not_false, cond_true, cond_false, bI_t, bI_f, Bool.false_eq_true, Bool.true_eq_false, dayC_1, dayC_21, dayC_221, dayC_222, w01, wP, wPL, wP01, wL01, wRow, w01R, wAB, wNum, isP, isL]; done) | exact cl_f
          refine A_iret dX10_needed_104 rfl ⟨_, rfl, (by rw [ew, rV_0]; unfold aNeed neV pk; rw [cl_p]; first | (rw [if_pos (hy.resolve_left (by omega)), ne_eq hx, ee]; done) | (rw [if_neg (by rw [c54]; decide), ← ee, i0]; rfl)), _, (by rw [ew]; first | (rw [rS_0]; exact O28) | exact O28), hf⟩
        · skip
          have hi := up_ge_F (N := x.2.2.1) c49 rfl (by omega) (by omega)
          obtain ⟨n0, rfl⟩ : ∃ q, nq = q + 1 := ⟨nq - 1, by omega⟩
          have cl_in := inN_nI (n := x.2.2.1) (k := i) (by omega) hi
          refine A_iload 54 dX10_needed_52 rfl rfl ?_
          refine A_if_eq 98 57 dX10_needed_54 (by decide) rfl (fun c54 => ?_) (fun c54 => ?_)
          · skip
            try simp only [bI_0, bI_n0, Classical.not_not, Bool.not_eq_false, Bool.true_and, Bool.and_true, decide_eq_true_eq, decide_eq_false_iff_not, dayC_1, dayC_21, dayC_221, dayC_222, inI_1, inI_2, inI_3, inI_5, inI_11, inI_16] at c54
            have i0 : i = 0 := hy.resolve_right (by rw [c54]; decide)
            refine A_aload_n 99 dX10_needed_98 rfl rfl rfl ?_
            refine A_iconst 100 (-1) dX10_needed_99 rfl (by decide) ?_
            refine P_X10_11 103 dX10_needed_100 rfl fw_X10_28 O28 (fun h_8 nh_8 eh_8 => ?_)
            replace O28 := nh_8
            replace hf : ∀ i, i ≠ 28 → h_8 i = h i := fun i g0 => (eh_8 i g0).trans (hf i g0)
            try dsimp only at O28
            refine A_iload_n 104 dX10_needed_103 rfl rfl rfl ?_
            have ew : wPL x (nI k_p) (nI k_l0) = 0 := by
              first | (simp only [c10, cl_p, c18, cl_l0, cl_in, c54, if_true, if_false, ite_true, ite_false, and_true, true_and, and_false, false_and, and_self, or_true, true_or, or_false, false_or, or_self, not_true_eq_false, not_false_eq_true, decide_true, decide_false, Bool.and_true, Bool.true_and, Bool.and_false, Bool.false_and, Bool.and_self, Bool.or_true, Bool.true_or, Bool.or_false, Bool.false_or, Bool.not_true, Bool.not_false, cond_true, cond_false, bI_t, bI_f, Bool.false_eq_true, Bool.true_eq_false, dayC_1, dayC_21, dayC_221, dayC_222, w01, wP, wPL, wP01, wL01, wRow, w01R, wAB, wNum, isP, isL]; done) | (simp only [c10, cl_p, c18, cl_l0, cl_in, eq_true c54, if_true, if_false, ite_true, ite_false, and_true, true_and, and_false, false_and, and_self, or_true, true_or, or_false, false_or, or_self, not_true_eq_false, not_false_eq_true, decide_true, decide_false, Bool.and_true, Bool.true_and, Bool.and_false, Bool.false_and, Bool.and_self, Bool.or_true, Bool.true_or, Bool.or_false, Bool.false_or, Bool.not_true, Bool.not_false, cond_true, cond_false, bI_t, bI_f, Bool.false_eq_true, Bool.true_eq_false, dayC_1, dayC_21, dayC_221, dayC_222, w01, wP, wPL, wP01, wL01, wRow, w01R, wAB, wNum, isP, isL]; done) | exact cl_f
            refine A_iret dX10_needed_104 rfl ⟨_, rfl, (by rw [ew, rV_0]; unfold aNeed neV pk; rw [cl_p]; first | (rw [if_pos (hy.resolve_left (by omega)), ne_eq hx, ee]; done) | (rw [if_neg (by rw [c54]; decide), ← ee, i0]; rfl)), _, (by rw [ew]; first | (rw [rS_0]; exact O28) | exact O28), hf⟩
          · skip
            try simp only [bI_0, bI_n0, Classical.not_not, Bool.not_eq_false, Bool.true_and, Bool.and_true, decide_eq_true_eq, decide_eq_false_iff_not, dayC_1, dayC_21, dayC_221, dayC_222, inI_1, inI_2, inI_3, inI_5, inI_11, inI_16] at c54
            refine A_aload_n 58 dX10_needed_57 rfl rfl rfl ?_
            refine A_iload 60 dX10_needed_58 rfl rfl ?_
            refine P_X10_11 63 dX10_needed_60 rfl fw_X10_28 O28 (fun h_9 nh_9 eh_9 => ?_)
            replace O28 := nh_9
            replace hf : ∀ i, i ≠ 28 → h_9 i = h i := fun i g0 => (eh_9 i g0).trans (hf i g0)
            try dsimp only at O28
            refine A_iload_n 64 dX10_needed_63 rfl rfl rfl ?_
            refine A_iload 66 dX10_needed_64 rfl rfl ?_
            refine A_iload_n 67 dX10_needed_66 rfl rfl rfl ?_
            refine A_icmp_eq 89 70 dX10_needed_67 (by decide) rfl (fun c67 => ?_) (fun c67 => ?_)
            · skip
              try simp only [bI_0, bI_n0, Classical.not_not, Bool.not_eq_false, Bool.true_and, Bool.and_true, decide_eq_true_eq, decide_eq_false_iff_not, dayC_1, dayC_21, dayC_221, dayC_222, inI_1, inI_2, inI_3, inI_5, inI_11, inI_16] at c67
              refine A_iconst 90 (0) dX10_needed_89 rfl (by decide) ?_
              refine A_ior 91 dX10_needed_90 rfl ?_
              refine A_istore_n 92 dX10_needed_91 rfl rfl (by decide) (by first | exact (ast_s (ast_s (ast_1 rfl))) | exact (ast_s (ast_s ast_k))) ?_
              first | refine A_iincN 95 dX10_needed_92 rfl rfl (by decide) (by first | exact (ast_s (ast_s (ast_s (ast_s (ast_1 rfl))))) | exact (ast_s (ast_s (ast_s (ast_s ast_k))))) ?_ | refine A_iinc 95 (1) dX10_needed_92 rfl rfl (by decide) (by decide) (by first | exact (ast_s (ast_s (ast_s (ast_s (ast_1 rfl))))) | exact (ast_s (ast_s (ast_s (ast_s ast_k))))) ?_
              refine A_goto 43 dX10_needed_95 (by decide) ?_
              exact ih n0 (Nat.lt_succ_self n0) (i + 1) _ h_9 _ _ (by omega) ((foldN_s (neF x (x.2.1 k_p) (nI k_l0)) (0) i).trans ((congrArg ((neF x (x.2.1 k_p) (nI k_l0)) i) ee).trans (by first | with_reducible rfl | (simp only [c10, cl_p, c18, cl_l0, cl_in, c54, c67, if_true, if_false, ite_true, ite_false, and_true, true_and, and_false, false_and, and_self, or_true, true_or, or_false, false_or, or_self, not_true_eq_false, not_false_eq_true, decide_true, decide_false, Bool.and_true, Bool.true_and, Bool.and_false, Bool.false_and, Bool.and_self, Bool.or_true, Bool.true_or, Bool.or_false, Bool.false_or, Bool.not_true, Bool.not_false, cond_true, cond_false, bI_t, bI_f, Bool.false_eq_true, Bool.true_eq_false, dayC_1, dayC_21, dayC_221, dayC_222, neF, cl_in, Int32.or_zero]; done) | (simp only [c10, cl_p, c18, cl_l0, cl_in, c54, eq_true c67, if_true, if_false, ite_true, ite_false, and_true, true_and, and_false, false_and, and_self, or_true, true_or, or_false, false_or, or_self, not_true_eq_false, not_false_eq_true, decide_true, decide_false, Bool.and_true, Bool.true_and, Bool.and_false, Bool.false_and, Bool.and_self, Bool.or_true, Bool.true_or, Bool.or_false, Bool.false_or, Bool.not_true, Bool.not_false, cond_true, cond_false, bI_t, bI_f, Bool.false_eq_true, Bool.true_eq_false, dayC_1, dayC_21, dayC_221, dayC_222, neF, cl_in, Int32.or_zero]; done) | (with_reducible first | exact absurd c10 c18 | exact absurd c10 c54 | exact absurd c10 c67 | exact absurd c10 hy | exact absurd c10 hyb | exact absurd c18 c10 | exact absurd c18 c54 | exact absurd c18 c67 | exact absurd c18 hy | exact absurd c18 hyb | exact absurd c54 c10 | exact absurd c54 c18 | exact absurd c54 c67 | exact absurd c54 hy | exact absurd c54 hyb | exact absurd c67 c10 | exact absurd c67 c18 | exact absurd c67 c54 | exact absurd c67 hy | exact absurd c67 hyb | exact absurd hy c10 | exact absurd hy c18 | exact absurd hy c54 | exact absurd hy c67 | exact absurd hy hyb | exact absurd hyb c10 | exact absurd hyb c18 | exact absurd hyb c54 | exact absurd hyb c67 | exact absurd hyb hy | (rw [c10] at c18; cases c18) | (rw [c10] at c54; cases c54) | (rw [c10] at c67; cases c67) | (rw [c18] at c10; cases c10) | (rw [c18] at c54; cases c54) | (rw [c18] at c67; cases c67) | (rw [c54] at c10; cases c10) | (rw [c54] at c18; cases c18) | (rw [c54] at c67; cases c67) | (rw [c67] at c10; cases c10) | (rw [c67] at c18; cases c18) | (rw [c67] at c54; cases c54)) | (simp [*, neF, cl_in, Int32.or_zero]; done) | with_reducible_and_instances rfl))) (Or.inr c54) O28 hf
            · skip
              try simp only [bI_0, bI_n0, Classical.not_not, Bool.not_eq_false, Bool.true_and, Bool.and_true, decide_eq_true_eq, decide_eq_false_iff_not, dayC_1, dayC_21, dayC_221, dayC_222, inI_1, inI_2, inI_3, inI_5, inI_11, inI_16] at c67
              refine A_aload_n 71 dX10_needed_70 rfl rfl rfl ?_
              refine A_iload_n 72 dX10_needed_71 rfl rfl rfl ?_
              refine A_callVI 75 (S_X10_doneBy X l O28 hx (Or.inr ⟨i, by omega, rfl⟩) (by omega)) dX10_needed_72 rfl kX10_doneBy lk_X10_115 rfl O28 (by decide) rfl (Nat.le_of_ble_eq_true rfl) (fun v_10 h_10 qh_10 => ?_)
              obtain ⟨rfl, n0h_10, eh_10⟩ := qh_10
              replace O28 := n0h_10
              replace hf : ∀ i, i ≠ 28 → h_10 i = h i := fun i g0 => (eh_10 i g0).trans (hf i g0)
              rw [nvB_i (by omega)]
              refine A_iload_n 76 dX10_needed_75 rfl rfl rfl ?_
              refine A_callSI 79 (S_X10_hasBit X l) dX10_needed_76 rfl kX10_hasBit lk_X10_93 rfl (by decide) rfl (Nat.le_of_ble_eq_true rfl) (fun v_11 h_11 qh_11 => ?_)
              obtain ⟨rfl, rfl⟩ := qh_11
              refine A_if_ne 89 82 dX10_needed_79 (by decide) rfl (fun c79 => ?_) (fun c79 => ?_)
              · skip
                try simp only [bI_0, bI_n0, Classical.not_not, Bool.not_eq_false, Bool.true_and, Bool.and_true, decide_eq_true_eq, decide_eq_false_iff_not, dayC_1, dayC_21, dayC_221, dayC_222, inI_1, inI_2, inI_3, inI_5, inI_11, inI_16] at c79
                refine A_iconst 90 (0) dX10_needed_89 rfl (by decide) ?_
                refine A_ior 91 dX10_needed_90 rfl ?_
                refine A_istore_n 92 dX10_needed_91 rfl rfl (by decide) (by first | exact (ast_s (ast_s (ast_1 rfl))) | exact (ast_s (ast_s ast_k))) ?_
                first | refine A_iincN 95 dX10_needed_92 rfl rfl (by decide) (by first | exact (ast_s (ast_s (ast_s (ast_s (ast_1 rfl))))) | exact (ast_s (ast_s (ast_s (ast_s ast_k))))) ?_ | refine A_iinc 95 (1) dX10_needed_92 rfl rfl (by decide) (by decide) (by first | exact (ast_s (ast_s (ast_s (ast_s (ast_1 rfl))))) | exact (ast_s (ast_s (ast_s (ast_s ast_k))))) ?_
                refine A_goto 43 dX10_needed_95 (by decide) ?_
                exact ih n0 (Nat.lt_succ_self n0) (i + 1) _ h_10 _ _ (by omega) ((foldN_s (neF x (x.2.1 k_p) (nI k_l0)) (0) i).trans ((congrArg ((neF x (x.2.1 k_p) (nI k_l0)) i) ee).trans (by first | with_reducible rfl | (simp only [c10, cl_p, c18, cl_l0, cl_in, c54, c67, c79, if_true, if_false, ite_true, ite_false, and_true, true_and, and_false, false_and, and_self, or_true, true_or, or_false, false_or, or_self, not_true_eq_false, not_false_eq_true, decide_true, decide_false, Bool.and_true, Bool.true_and, Bool.and_false, Bool.false_and, Bool.and_self, Bool.or_true, Bool.true_or, Bool.or_false, Bool.false_or, Bool.not_true, Bool.not_false, cond_true, cond_false, bI_t, bI_f, Bool.false_eq_true, Bool.true_eq_false, dayC_1, dayC_21, dayC_221, dayC_222, neF, cl_in, Int32.or_zero]; done) | (with_reducible first | exact absurd c10 c18 | exact absurd c10 c54 | exact absurd c10 c67 | exact absurd c10 c79 | exact absurd c10 hy | exact absurd c10 hyb | exact absurd c18 c10 | exact absurd c18 c54 | exact absurd c18 c67 | exact absurd c18 c79 | exact absurd c18 hy | exact absurd c18 hyb | exact absurd c54 c10 | exact absurd c54 c18 | exact absurd c54 c67 | exact absurd c54 c79 | exact absurd c54 hy | exact absurd c54 hyb | exact absurd c67 c10 | exact absurd c67 c18 | exact absurd c67 c54 | exact absurd c67 c79 | exact absurd c67 hy | exact absurd c67 hyb | exact absurd c79 c10 | exact absurd c79 c18 | exact absurd c79 c54 | exact absurd c79 c67 | exact absurd c79 hy | exact absurd c79 hyb | exact absurd hy c10 | exact absurd hy c18 | exact absurd hy c54 | exact absurd hy c67 | exact absurd hy c79 | exact absurd hy hyb | exact absurd hyb c10 | exact absurd hyb c18 | exact absurd hyb c54 | exact absurd hyb c67 | exact absurd hyb c79 | exact absurd hyb hy | (rw [c10] at c18; cases c18) | (rw [c10] at c54; cases c54) | (rw [c10] at c67; cases c67) | (rw [c10] at c79; cases c79) | (rw [c18] at c10; cases c10) | (rw [c18] at c54; cases c54) | (rw [c18] at c67; cases c67) | (rw [c18] at c79; cases c79) | (rw [c54] at c10; cases c10) | (rw [c54] at c18; cases c18) | (rw [c54] at c67; cases c67) | (rw [c54] at c79; cases c79) | (rw [c67] at c10; cases c10) | (rw [c67] at c18; cases c18) | (rw [c67] at c54; cases c54) | (rw [c67] at c79; cases c79) | (rw [c79] at c10; cases c10) | (rw [c79] at c18; cases c18) | (rw [c79] at c54; cases c54) | (rw [c79] at c67; cases c67)) | (simp [*, neF, cl_in, Int32.or_zero]; done) | with_reducible_and_instances rfl))) (Or.inr c54) O28 hf
              · skip
                try simp only [bI_0, bI_n0, Classical.not_not, Bool.not_eq_false, Bool.true_and, Bool.and_true, decide_eq_true_eq, decide_eq_false_iff_not, dayC_1, dayC_21, dayC_221, dayC_222, inI_1, inI_2, inI_3, inI_5, inI_11, inI_16] at c79
                refine A_iconst 83 (1) dX10_needed_82 rfl (by decide) ?_
                refine A_iload 85 dX10_needed_83 rfl rfl ?_
                refine A_ishl 86 dX10_needed_85 rfl ?_
                rw [sh_one]
                refine A_goto 90 dX10_needed_86 (by decide) ?_
                refine A_ior 91 dX10_needed_90 rfl ?_
                refine A_istore_n 92 dX10_needed_91 rfl rfl (by decide) (by first | exact (ast_s (ast_s (ast_1 rfl))) | exact (ast_s (ast_s ast_k))) ?_
                first | refine A_iincN 95 dX10_needed_92 rfl rfl (by decide) (by first | exact (ast_s (ast_s (ast_s (ast_s (ast_1 rfl))))) | exact (ast_s (ast_s (ast_s (ast_s ast_k))))) ?_ | refine A_iinc 95 (1) dX10_needed_92 rfl rfl (by decide) (by decide) (by first | exact (ast_s (ast_s (ast_s (ast_s (ast_1 rfl))))) | exact (ast_s (ast_s (ast_s (ast_s ast_k))))) ?_
                refine A_goto 43 dX10_needed_95 (by decide) ?_
                exact ih n0 (Nat.lt_succ_self n0) (i + 1) _ h_10 _ _ (by omega) ((foldN_s (neF x (x.2.1 k_p) (nI k_l0)) (0) i).trans ((congrArg ((neF x (x.2.1 k_p) (nI k_l0)) i) ee).trans (by first | with_reducible rfl | (simp only [c10, cl_p, c18, cl_l0, cl_in, c54, c67, c79, if_true, if_false, ite_true, ite_false, and_true, true_and, and_false, false_and, and_self, or_true, true_or, or_false, false_or, or_self, not_true_eq_false, not_false_eq_true, decide_true, decide_false, Bool.and_true, Bool.true_and, Bool.and_false, Bool.false_and, Bool.and_self, Bool.or_true, Bool.true_or, Bool.or_false, Bool.false_or, Bool.not_true, Bool.not_false, cond_true, cond_false, bI_t, bI_f, Bool.false_eq_true, Bool.true_eq_false, dayC_1, dayC_21, dayC_221, dayC_222, neF, cl_in, Int32.or_zero]; done) | (with_reducible first | exact absurd c10 c18 | exact absurd c10 c54 | exact absurd c10 c67 | exact absurd c10 c79 | exact absurd c10 hy | exact absurd c10 hyb | exact absurd c18 c10 | exact absurd c18 c54 | exact absurd c18 c67 | exact absurd c18 c79 | exact absurd c18 hy | exact absurd c18 hyb | exact absurd c54 c10 | exact absurd c54 c18 | exact absurd c54 c67 | exact absurd c54 c79 | exact absurd c54 hy | exact absurd c54 hyb | exact absurd c67 c10 | exact absurd c67 c18 | exact absurd c67 c54 | exact absurd c67 c79 | exact absurd c67 hy | exact absurd c67 hyb | exact absurd c79 c10 | exact absurd c79 c18 | exact absurd c79 c54 | exact absurd c79 c67 | exact absurd c79 hy | exact absurd c79 hyb | exact absurd hy c10 | exact absurd hy c18 | exact absurd hy c54 | exact absurd hy c67 | exact absurd hy c79 | exact absurd hy hyb | exact absurd hyb c10 | exact absurd hyb c18 | exact absurd hyb c54 | exact absurd hyb c67 | exact absurd hyb c79 | exact absurd hyb hy | (rw [c10] at c18; cases c18) | (rw [c10] at c54; cases c54) | (rw [c10] at c67; cases c67) | (rw [c10] at c79; cases c79) | (rw [c18] at c10; cases c10) | (rw [c18] at c54; cases c54) | (rw [c18] at c67; cases c67) | (rw [c18] at c79; cases c79) | (rw [c54] at c10; cases c10) | (rw [c54] at c18; cases c18) | (rw [c54] at c67; cases c67) | (rw [c54] at c79; cases c79) | (rw [c67] at c10; cases c10) | (rw [c67] at c18; cases c18) | (rw [c67] at c54; cases c54) | (rw [c67] at c79; cases c79) | (rw [c79] at c10; cases c10) | (rw [c79] at c18; cases c18) | (rw [c79] at c54; cases c54) | (rw [c79] at c67; cases c67)) | (simp [*, neF, cl_in, Int32.or_zero]; done) | with_reducible_and_instances rfl))) (Or.inr c54) O28 hf
      exact L43 (x.2.2.1) (0) (_) h_5 (-1) (_) (by omega) (rfl) (Or.inl rfl) O28 hf
    · skip
      try simp only [bI_0, bI_n0, Classical.not_not, Bool.not_eq_false, Bool.true_and, Bool.and_true, decide_eq_true_eq, decide_eq_false_iff_not, dayC_1, dayC_21, dayC_221, dayC_222, inI_1, inI_2, inI_3, inI_5, inI_11, inI_16] at c18
      refine A_aload_n 22 dX10_needed_21 rfl rfl rfl ?_
      refine A_iconst 23 (-1) dX10_needed_22 rfl (by decide) ?_
      refine A_callVI 26 (S_X10_refuse_c X l (by first | assumption | decide | omega | exact Ne.symm (by assumption)) (by first | assumption | (unfold CD; decide))) dX10_needed_23 rfl kX10_refuse lk_X10_121 rfl O28 (by decide) rfl (Nat.le_of_ble_eq_true rfl) (fun v_12 h_12 qh_12 => ?_)
      obtain ⟨rfl, n0h_12, eh_12⟩ := qh_12
      replace O28 := n0h_12
      replace hf : ∀ i, i ≠ 28 → h_12 i = h i := fun i g0 => (eh_12 i g0).trans (hf i g0)
      have ew : wPL x (nI k_p) l0 = -1 := by
        first | (simp only [c10, cl_p, c18, if_true, if_false, ite_true, ite_false, and_true, true_and, and_false, false_and, and_self, or_true, true_or, or_false, false_or, or_self, not_true_eq_false, not_false_eq_true, decide_true, decide_false, Bool.and_true, Bool.true_and, Bool.and_false, Bool.false_and, Bool.and_self, Bool.or_true, Bool.true_or, Bool.or_false, Bool.false_or, Bool.not_true, Bool.not_false, cond_true, cond_false, bI_t, bI_f, Bool.false_eq_true, Bool.true_eq_false, dayC_1, dayC_21, dayC_221, dayC_222, w01, wP, wPL, wP01, wL01, wRow, w01R, wAB, wNum, isP, isL]; done) | exact cl_f
      refine A_iret dX10_needed_26 rfl ⟨_, rfl, (by rw [ew]; exact rV_n (by decide)), _, (by rw [ew]; first | (rw [rS_0]; exact O28) | exact O28), hf⟩
set_option maxHeartbeats 4000000 in
set_option maxRecDepth 100000 in
theorem S_X10_latest (X : En) (l : Launch) {h : Hp} {x : PW} {c : RC} {z : RZ} (O28 : h 28 = some (rB x (-1) c z)) (hW : WOK x)  {p l0 : Int32} : Ct X l mX10_latest [aR 28 0, aI p, aI l0] h (QI (fun vr h2 => (rV (wPL x p l0) (aLate x p l0)) = vr ∧ ∃ (z1 : RZ), h2 (28) = some (rB x (-1) (rS (wPL x p l0) c.1, c.2) z1) ∧ ∀ i, i ≠ 28 → h2 i = h i)) := by
  have hx := hW.1
  have hp := hW.2.1
  have h10 := hx.1
  have hf : ∀ i, i ≠ 28 → h i = h i := fun _ _ => rfl
  refine Ct.intro [some (aR 28 0), some (aI p), some (aI l0), none, none, none] (by decide +kernel) rfl (Nat.le_of_ble_eq_true rfl) ?_
  refine A_aload_n 1 dX10_latest_0 rfl rfl rfl ?_
  refine A_iconst 2 (0) dX10_latest_1 rfl (by decide) ?_
  refine P_X10_9 5 dX10_latest_2 rfl fw_X10_78 O28 (fun h_1 nh_1 eh_1 => ?_)
  replace O28 := nh_1
  replace hf : ∀ i, i ≠ 28 → h_1 i = h i := fun i g0 => (eh_1 i g0).trans (hf i g0)
  try dsimp only at O28
  refine A_aload_n 6 dX10_latest_5 rfl rfl rfl ?_
  refine A_iload_n 7 dX10_latest_6 rfl rfl rfl ?_
  refine A_callVI 10 (S_X10_isOne X l (by first | assumption | decide | omega | exact Ne.symm (by assumption)) (by first | assumption | decide | omega | exact Ne.symm (by assumption))) dX10_latest_7 rfl kX10_isOne lk_X10_160 rfl O28 (by decide) rfl (Nat.le_of_ble_eq_true rfl) (fun v_2 h_2 qh_2 => ?_)
  obtain ⟨rfl, rfl⟩ := qh_2
  refine A_if_eq 21 13 dX10_latest_10 (by decide) rfl (fun c10 => ?_) (fun c10 => ?_)
  · skip
    try simp only [bI_0, bI_n0, Classical.not_not, Bool.not_eq_false, Bool.true_and, Bool.and_true, decide_eq_true_eq, decide_eq_false_iff_not, dayC_1, dayC_21, dayC_221, dayC_222, inI_1, inI_2, inI_3, inI_5, inI_11, inI_16] at c10
    refine A_aload_n 22 dX10_latest_21 rfl rfl rfl ?_
    refine A_iconst 23 (-1) dX10_latest_22 rfl (by decide) ?_
    refine A_callVI 26 (S_X10_refuse_c X l (by first | assumption | decide | omega | exact Ne.symm (by assumption)) (by first | assumption | (unfold CD; decide))) dX10_latest_23 rfl kX10_refuse lk_X10_121 rfl O28 (by decide) rfl (Nat.le_of_ble_eq_true rfl) (fun v_3 h_3 qh_3 => ?_)
    obtain ⟨rfl, n0h_3, eh_3⟩ := qh_3
    replace O28 := n0h_3
    replace hf : ∀ i, i ≠ 28 → h_3 i = h i := fun i g0 => (eh_3 i g0).trans (hf i g0)
    have ew : wPL x p l0 = -1 := by
      first | (simp only [c10, if_true, if_false, ite_true, ite_false, and_true, true_and, and_false, false_and, and_self, or_true, true_or, or_false, false_or, or_self, not_true_eq_false, not_false_eq_true, decide_true, decide_false, Bool.and_true, Bool.true_and, Bool.and_false, Bool.false_and, Bool.and_self, Bool.or_true, Bool.true_or, Bool.or_false, Bool.false_or, Bool.not_true, Bool.not_false, cond_true, cond_false, bI_t, bI_f, Bool.false_eq_true, Bool.true_eq_false, dayC_1, dayC_21, dayC_221, dayC_222, w01, wP, wPL, wP01, wL01, wRow, w01R, wAB, wNum, isP, isL]; done) | exact cl_f
    refine A_iret dX10_latest_26 rfl ⟨_, rfl, (by rw [ew]; exact rV_n (by decide)), _, (by rw [ew]; first | (rw [rS_0]; exact O28) | exact O28), hf⟩
  · skip
    try simp only [bI_0, bI_n0, Classical.not_not, Bool.not_eq_false, Bool.true_and, Bool.and_true, decide_eq_true_eq, decide_eq_false_iff_not, dayC_1, dayC_21, dayC_221, dayC_222, inI_1, inI_2, inI_3, inI_5, inI_11, inI_16] at c10
    obtain ⟨k_p, rfl, hk_p⟩ := inN_ex c10 (by omega)
    have cl_p : (nI k_p).toNatClampNeg = k_p := nI_clamp (by omega)
    refine A_aload_n 14 dX10_latest_13 rfl rfl rfl ?_
    refine A_iload_n 15 dX10_latest_14 rfl rfl rfl ?_
    refine A_callVI 18 (S_X10_isLaw X l (by first | assumption | decide | omega | exact Ne.symm (by assumption)) (by first | assumption | decide | omega | exact Ne.symm (by assumption))) dX10_latest_15 rfl kX10_isLaw lk_X10_206 rfl O28 (by decide) rfl (Nat.le_of_ble_eq_true rfl) (fun v_4 h_4 qh_4 => ?_)
    obtain ⟨rfl, rfl⟩ := qh_4
    refine A_if_ne 27 21 dX10_latest_18 (by decide) rfl (fun c18 => ?_) (fun c18 => ?_)
    · skip
      try simp only [bI_0, bI_n0, Classical.not_not, Bool.not_eq_false, Bool.true_and, Bool.and_true, decide_eq_true_eq, decide_eq_false_iff_not, dayC_1, dayC_21, dayC_221, dayC_222, inI_1, inI_2, inI_3, inI_5, inI_11, inI_16] at c18
      obtain ⟨k_l0, rfl, hk_l0⟩ := inN_ex c18 (by omega)
      have cl_l0 : (nI k_l0).toNatClampNeg = k_l0 := nI_clamp (by omega)
      refine A_aload_n 28 dX10_latest_27 rfl rfl rfl ?_
      refine A_getfield 31 dX10_latest_28 rfl f_X10_13 O28 rfl ?_
      refine A_iload_n 32 dX10_latest_31 rfl rfl rfl ?_
      refine A_iaload 33 dX10_latest_32 rfl O28 rfl (by first | assumption | exact ix_nI (by omega) (by decide) | exact ix_lit _ rfl (by omega) (by decide) | exact ix_lit _ rfl (by decide) (by decide)) ?_
      try dsimp only
      refine A_istore_n 34 dX10_latest_33 rfl rfl (by decide) (by first | exact (ast_s (ast_s (ast_1 rfl))) | exact (ast_s (ast_s ast_k))) ?_
      refine A_bipush 36 (-9) dX10_latest_34 rfl (by decide) ?_
      refine A_istore 38 dX10_latest_36 rfl (by decide) (by first | exact (ast_s (ast_s (ast_s (ast_1 rfl)))) | exact (ast_s (ast_s (ast_s ast_k)))) ?_
      refine A_iconst 39 (0) dX10_latest_38 rfl (by decide) ?_
      refine A_istore 41 dX10_latest_39 rfl (by decide) (by first | exact (ast_s (ast_s (ast_s (ast_s (ast_1 rfl))))) | exact (ast_s (ast_s (ast_s (ast_s ast_k))))) ?_
      have L41 : ∀ (nq i : Nat) (u : Int32) (g41 : Hp) (xx : PW) (z2 : RZ), (nq + i = 10) → (foldN (ltF x (x.2.1 k_p) k_l0) (-9) i = (u)) → ((∀ v, setP xx k_l0 1 v = setP x k_l0 1 v) ∧ xx.2 = x.2) → (g41 28 = some (rB xx (-1) c z2)) → (∀ i, i ≠ 28 → g41 i = h i) → Av X l mX10_latest 41 [some (aR 28 0), some (aI (nI (k_p))), some (aI (nI (k_l0))), some (aI (x.1 (k_l0 * 4 + 1))), some (aI (u)), some (aI (nI (i)))] [] g41 (QI (fun vr h2 => (rV (wPL x (nI k_p) (nI k_l0)) (aLate x (nI k_p) (nI k_l0))) = vr ∧ ∃ (z1 : RZ), h2 (28) = some (rB x (-1) (rS (wPL x (nI k_p) (nI k_l0)) c.1, c.2) z1) ∧ ∀ i, i ≠ 28 → h2 i = h i)) := by
        intro nq
        induction nq using Nat.strongRecOn with
        | _ nq ih =>
        intro i u g41 xx z2 en ee hy O28 hf
        refine A_iload 43 dX10_latest_41 rfl rfl ?_
        refine A_bipush 45 (9) dX10_latest_43 rfl (by decide) ?_
        refine A_icmp_gt 83 48 dX10_latest_45 (by decide) rfl (fun c45 => ?_) (fun c45 => ?_)
        · skip
          obtain rfl := (up_gt_T (N := 10) c45 rfl (by omega) (by omega) (by omega)).symm
          refine A_aload_n 84 dX10_latest_83 rfl rfl rfl ?_
          refine A_getfield 87 dX10_latest_84 rfl f_X10_13 O28 rfl ?_
          refine A_iload_n 88 dX10_latest_87 rfl rfl rfl ?_
          refine A_iload_n 89 dX10_latest_88 rfl rfl rfl ?_
          refine T_X10_1 90 dX10_latest_89 rfl O28 (by first | assumption | exact ix_nI (by omega) (by decide) | exact ix_lit _ rfl (by omega) (by decide) | exact ix_lit _ rfl (by decide) (by decide)) (fun h_5 nh_5 eh_5 => ?_)
          replace O28 := nh_5
          replace hf : ∀ i, i ≠ 28 → h_5 i = h i := fun i g0 => (eh_5 i g0).trans (hf i g0)
          try dsimp only at O28
          have ex : setP xx k_l0 1 (x.1 (k_l0 * 4 + 1)) = x := (hy.1 _).trans (setP_back x k_l0 1)
          replace O28 : h_5 28 = some (rB x (-1) c z2) := O28.trans (congrArg (fun w => some (rB w (-1) c z2)) ex)
          refine A_iload 92 dX10_latest_90 rfl rfl ?_
          have ew : wPL x (nI k_p) (nI k_l0) = 0 := by
            first | (simp only [c10, cl_p, c18, cl_l0, if_true, if_false, ite_true, ite_false, and_true, true_and, and_false, false_and, and_self, or_true, true_or, or_false, false_or, or_self, not_true_eq_false, not_false_eq_true, decide_true, decide_false, Bool.and_true, Bool.true_and, Bool.and_false, Bool.false_and, Bool.and_self, Bool.or_true, Bool.true_or, Bool.or_false, Bool.false_or, Bool.not_true, Bool.not_false, cond_true, cond_false, bI_t, bI_f, Bool.false_eq_true, Bool.true_eq_false, dayC_1, dayC_21, dayC_221, dayC_222, w01, wP, wPL, wP01, wL01, wRow, w01R, wAB, wNum, isP, isL]; done) | exact cl_f
          refine A_iret dX10_latest_92 rfl ⟨_, rfl, (by rw [ew, rV_0]; unfold aLate pk; rw [cl_p, cl_l0, ← lt_eq, ee]), _, (by rw [ew]; first | (rw [rS_0]; exact O28) | exact O28), hf⟩
        · skip
          have hi := up_gt_F (N := 10) c45 rfl (by omega) (by omega) (by omega)
          obtain ⟨n0, rfl⟩ : ∃ q, nq = q + 1 := ⟨nq - 1, by omega⟩
          refine A_aload_n 49 dX10_latest_48 rfl rfl rfl ?_
          refine A_getfield 52 dX10_latest_49 rfl f_X10_13 O28 rfl ?_
          refine A_iload_n 53 dX10_latest_52 rfl rfl rfl ?_
          refine A_iload 55 dX10_latest_53 rfl rfl ?_
          refine T_X10_1 56 dX10_latest_55 rfl O28 (by first | assumption | exact ix_nI (by omega) (by decide) | exact ix_lit _ rfl (by omega) (by decide) | exact ix_lit _ rfl (by decide) (by decide)) (fun h_6 nh_6 eh_6 => ?_)
          replace O28 := nh_6
          replace hf : ∀ i, i ≠ 28 → h_6 i = h i := fun i g0 => (eh_6 i g0).trans (hf i g0)
          try dsimp only at O28
          replace O28 : h_6 28 = some (rB (setP x k_l0 1 (nI i)) (-1) c z2) := by
            rw [← hy.1]
            unfold setP
            exact O28
          have hL := hx.sP (k := k_l0) (j := 1) (i := i) (by decide) (by show i < 10; omega)
          refine A_aload_n 57 dX10_latest_56 rfl rfl rfl ?_
          refine A_iload_n 58 dX10_latest_57 rfl rfl rfl ?_
          refine A_callVI 61 (S_X10_doneBy_n X l O28 hL (by omega)) dX10_latest_58 rfl kX10_doneBy lk_X10_115 rfl O28 (by decide) rfl (Nat.le_of_ble_eq_true rfl) (fun v_7 h_7 qh_7 => ?_)
          obtain ⟨rfl, n0h_7, eh_7⟩ := qh_7
          replace O28 := n0h_7
          replace hf : ∀ i, i ≠ 28 → h_7 i = h i := fun i g0 => (eh_7 i g0).trans (hf i g0)
          rw [show (setP x k_l0 1 (nI i)).2.1 k_p = x.2.1 k_p from rfl]
          refine A_iload_n 62 dX10_latest_61 rfl rfl rfl ?_
          refine A_callSI 65 (S_X10_hasBit X l) dX10_latest_62 rfl kX10_hasBit lk_X10_93 rfl (by decide) rfl (Nat.le_of_ble_eq_true rfl) (fun v_8 h_8 qh_8 => ?_)
          obtain ⟨rfl, rfl⟩ := qh_8
          refine A_if_eq 73 68 dX10_latest_65 (by decide) rfl (fun c65 => ?_) (fun c65 => ?_)
          · skip
            try simp only [bI_0, bI_n0, Classical.not_not, Bool.not_eq_false, Bool.true_and, Bool.and_true, decide_eq_true_eq, decide_eq_false_iff_not, dayC_1, dayC_21, dayC_221, dayC_222, inI_1, inI_2, inI_3, inI_5, inI_11, inI_16] at c65
            refine A_iload 75 dX10_latest_73 rfl rfl ?_
            refine A_istore 77 dX10_latest_75 rfl (by decide) (by first | exact (ast_s (ast_s (ast_s (ast_1 rfl)))) | exact (ast_s (ast_s (ast_s ast_k)))) ?_
            first | refine A_iincN 80 dX10_latest_77 rfl rfl (by decide) (by first | exact (ast_s (ast_s (ast_s (ast_s (ast_1 rfl))))) | exact (ast_s (ast_s (ast_s (ast_s ast_k))))) ?_ | refine A_iinc 80 (1) dX10_latest_77 rfl rfl (by decide) (by decide) (by first | exact (ast_s (ast_s (ast_s (ast_s (ast_1 rfl))))) | exact (ast_s (ast_s (ast_s (ast_s ast_k))))) ?_
            refine A_goto 41 dX10_latest_80 (by decide) ?_
            exact ih n0 (Nat.lt_succ_self n0) (i + 1) _ h_7 _ _ (by omega) ((foldN_s (ltF x (x.2.1 k_p) k_l0) (-9) i).trans ((congrArg ((ltF x (x.2.1 k_p) k_l0) i) ee).trans (by first | with_reducible rfl | (simp only [c10, cl_p, c18, cl_l0, c65, if_true, if_false, ite_true, ite_false, and_true, true_and, and_false, false_and, and_self, or_true, true_or, or_false, false_or, or_self, not_true_eq_false, not_false_eq_true, decide_true, decide_false, Bool.and_true, Bool.true_and, Bool.and_false, Bool.false_and, Bool.and_self, Bool.or_true, Bool.true_or, Bool.or_false, Bool.false_or, Bool.not_true, Bool.not_false, cond_true, cond_false, bI_t, bI_f, Bool.false_eq_true, Bool.true_eq_false, dayC_1, dayC_21, dayC_221, dayC_222, ltF]; done) | (simp [*, ltF]; done) | with_reducible_and_instances rfl))) (⟨fun v => setP_setP x k_l0 1 (nI i) v, rfl⟩) O28 hf
          · skip
            try simp only [bI_0, bI_n0, Classical.not_not, Bool.not_eq_false, Bool.true_and, Bool.and_true, decide_eq_true_eq, decide_eq_false_iff_not, dayC_1, dayC_21, dayC_221, dayC_222, inI_1, inI_2, inI_3, inI_5, inI_11, inI_16] at c65
            refine A_iload 70 dX10_latest_68 rfl rfl ?_
            refine A_goto 75 dX10_latest_70 (by decide) ?_
            refine A_istore 77 dX10_latest_75 rfl (by decide) (by first | exact (ast_s (ast_s (ast_s (ast_1 rfl)))) | exact (ast_s (ast_s (ast_s ast_k)))) ?_
            first | refine A_iincN 80 dX10_latest_77 rfl rfl (by decide) (by first | exact (ast_s (ast_s (ast_s (ast_s (ast_1 rfl))))) | exact (ast_s (ast_s (ast_s (ast_s ast_k))))) ?_ | refine A_iinc 80 (1) dX10_latest_77 rfl rfl (by decide) (by decide) (by first | exact (ast_s (ast_s (ast_s (ast_s (ast_1 rfl))))) | exact (ast_s (ast_s (ast_s (ast_s ast_k))))) ?_
            refine A_goto 41 dX10_latest_80 (by decide) ?_
            exact ih n0 (Nat.lt_succ_self n0) (i + 1) _ h_7 _ _ (by omega) ((foldN_s (ltF x (x.2.1 k_p) k_l0) (-9) i).trans ((congrArg ((ltF x (x.2.1 k_p) k_l0) i) ee).trans (by first | with_reducible rfl | (simp only [c10, cl_p, c18, cl_l0, c65, if_true, if_false, ite_true, ite_false, and_true, true_and, and_false, false_and, and_self, or_true, true_or, or_false, false_or, or_self, not_true_eq_false, not_false_eq_true, decide_true, decide_false, Bool.and_true, Bool.true_and, Bool.and_false, Bool.false_and, Bool.and_self, Bool.or_true, Bool.true_or, Bool.or_false, Bool.false_or, Bool.not_true, Bool.not_false, cond_true, cond_false, bI_t, bI_f, Bool.false_eq_true, Bool.true_eq_false, dayC_1, dayC_21, dayC_221, dayC_222, ltF]; done) | (simp [*, ltF]; done) | with_reducible_and_instances rfl))) (⟨fun v => setP_setP x k_l0 1 (nI i) v, rfl⟩) O28 hf
      exact L41 (10) (0) (_) h_1 (x) (_) (by omega) (rfl) (⟨fun _ => rfl, rfl⟩) O28 hf
    · skip
      try simp only [bI_0, bI_n0, Classical.not_not, Bool.not_eq_false, Bool.true_and, Bool.and_true, decide_eq_true_eq, decide_eq_false_iff_not, dayC_1, dayC_21, dayC_221, dayC_222, inI_1, inI_2, inI_3, inI_5, inI_11, inI_16] at c18
      refine A_aload_n 22 dX10_latest_21 rfl rfl rfl ?_
      refine A_iconst 23 (-1) dX10_latest_22 rfl (by decide) ?_
      refine A_callVI 26 (S_X10_refuse_c X l (by first | assumption | decide | omega | exact Ne.symm (by assumption)) (by first | assumption | (unfold CD; decide))) dX10_latest_23 rfl kX10_refuse lk_X10_121 rfl O28 (by decide) rfl (Nat.le_of_ble_eq_true rfl) (fun v_9 h_9 qh_9 => ?_)
      obtain ⟨rfl, n0h_9, eh_9⟩ := qh_9
      replace O28 := n0h_9
      replace hf : ∀ i, i ≠ 28 → h_9 i = h i := fun i g0 => (eh_9 i g0).trans (hf i g0)
      have ew : wPL x (nI k_p) l0 = -1 := by
        first | (simp only [c10, cl_p, c18, if_true, if_false, ite_true, ite_false, and_true, true_and, and_false, false_and, and_self, or_true, true_or, or_false, false_or, or_self, not_true_eq_false, not_false_eq_true, decide_true, decide_false, Bool.and_true, Bool.true_and, Bool.and_false, Bool.false_and, Bool.and_self, Bool.or_true, Bool.true_or, Bool.or_false, Bool.false_or, Bool.not_true, Bool.not_false, cond_true, cond_false, bI_t, bI_f, Bool.false_eq_true, Bool.true_eq_false, dayC_1, dayC_21, dayC_221, dayC_222, w01, wP, wPL, wP01, wL01, wRow, w01R, wAB, wNum, isP, isL]; done) | exact cl_f
      refine A_iret dX10_latest_26 rfl ⟨_, rfl, (by rw [ew]; exact rV_n (by decide)), _, (by rw [ew]; first | (rw [rS_0]; exact O28) | exact O28), hf⟩
set_option maxHeartbeats 4000000 in
set_option maxRecDepth 100000 in
theorem S_X10_ways (X : En) (l : Launch) {h : Hp} {x : PW} {c : RC} {z : RZ} (O28 : h 28 = some (rB x (-1) c z)) (hW : WOK x)  {l0 v : Int32} : Ct X l mX10_ways [aR 28 0, aI l0, aI v] h (QI (fun vr h2 => (rV (wL01 x l0 v) (aWays x l0 v)) = vr ∧ ∃ (z1 : RZ), h2 (28) = some (rB x (-1) (rS (wL01 x l0 v) c.1, c.2) z1) ∧ ∀ i, i ≠ 28 → h2 i = h i)) := by
  have hx := hW.1
  have hp := hW.2.1
  have h10 := hx.1
  have hf : ∀ i, i ≠ 28 → h i = h i := fun _ _ => rfl
  refine Ct.intro [some (aR 28 0), some (aI l0), some (aI v), none, none, none, none, none] (by decide +kernel) rfl (Nat.le_of_ble_eq_true rfl) ?_
  refine A_aload_n 1 dX10_ways_0 rfl rfl rfl ?_
  refine A_iconst 2 (0) dX10_ways_1 rfl (by decide) ?_
  refine P_X10_9 5 dX10_ways_2 rfl fw_X10_78 O28 (fun h_1 nh_1 eh_1 => ?_)
  replace O28 := nh_1
  replace hf : ∀ i, i ≠ 28 → h_1 i = h i := fun i g0 => (eh_1 i g0).trans (hf i g0)
  try dsimp only at O28
  refine A_joinI 23 (fun vj => vj = wL01 x l0 v) (fun j23 => ?_) (fun v23 e23 => ?_)
  · skip
    refine A_aload_n 6 dX10_ways_5 rfl rfl rfl ?_
    refine A_iload_n 7 dX10_ways_6 rfl rfl rfl ?_
    refine A_callVI 10 (S_X10_isLaw X l (by first | assumption | decide | omega | exact Ne.symm (by assumption)) (by first | assumption | decide | omega | exact Ne.symm (by assumption))) dX10_ways_7 rfl kX10_isLaw lk_X10_206 rfl O28 (by decide) rfl (Nat.le_of_ble_eq_true rfl) (fun v_2 h_2 qh_2 => ?_)
    obtain ⟨rfl, rfl⟩ := qh_2
    refine A_if_eq 22 13 dX10_ways_10 (by decide) rfl (fun c10 => ?_) (fun c10 => ?_)
    · skip
      try simp only [bI_0, bI_n0, Classical.not_not, Bool.not_eq_false, Bool.true_and, Bool.and_true, decide_eq_true_eq, decide_eq_false_iff_not, dayC_1, dayC_21, dayC_221, dayC_222, inI_1, inI_2, inI_3, inI_5, inI_11, inI_16] at c10
      refine A_iconst 23 (-1) dX10_ways_22 rfl (by decide) ?_
      exact j23 _ (by first | (simp only [c10, if_true, if_false, ite_true, ite_false, and_true, true_and, and_false, false_and, and_self, or_true, true_or, or_false, false_or, or_self, not_true_eq_false, not_false_eq_true, decide_true, decide_false, Bool.and_true, Bool.true_and, Bool.and_false, Bool.false_and, Bool.and_self, Bool.or_true, Bool.true_or, Bool.or_false, Bool.false_or, Bool.not_true, Bool.not_false, cond_true, cond_false, bI_t, bI_f, Bool.false_eq_true, Bool.true_eq_false, dayC_1, dayC_21, dayC_221, dayC_222, w01, wP, wPL, wP01, wL01, wRow, w01R, wAB, wNum, isP, isL, wrB_N, wrB_0, wrB_1]; done) | (simp only [c10, if_true, if_false, ite_true, ite_false, and_true, true_and, and_false, false_and, and_self, or_true, true_or, or_false, false_or, or_self, not_true_eq_false, not_false_eq_true, decide_true, decide_false, Bool.and_true, Bool.true_and, Bool.and_false, Bool.false_and, Bool.and_self, Bool.or_true, Bool.true_or, Bool.or_false, Bool.false_or, Bool.not_true, Bool.not_false, cond_true, cond_false, bI_t, bI_f, Bool.false_eq_true, Bool.true_eq_false, dayC_1, dayC_21, dayC_221, dayC_222, wrN, w01, wP, wPL, wP01, wL01, wRow, w01R, wAB, wNum, isP, isL, wrB_N, wrB_0, wrB_1]; done) | (simp only [c10, if_true, if_false, ite_true, ite_false, and_true, true_and, and_false, false_and, and_self, or_true, true_or, or_false, false_or, or_self, not_true_eq_false, not_false_eq_true, decide_true, decide_false, Bool.and_true, Bool.true_and, Bool.and_false, Bool.false_and, Bool.and_self, Bool.or_true, Bool.true_or, Bool.or_false, Bool.false_or, Bool.not_true, Bool.not_false, cond_true, cond_false, bI_t, bI_f, Bool.false_eq_true, Bool.true_eq_false, dayC_1, dayC_21, dayC_221, dayC_222, wrN, w01, wP, wPL, wP01, wL01, wRow, w01R, wAB, wNum, isP, isL, wrB_N, wrB_0, wrB_1]; rfl))
    · skip
      try simp only [bI_0, bI_n0, Classical.not_not, Bool.not_eq_false, Bool.true_and, Bool.and_true, decide_eq_true_eq, decide_eq_false_iff_not, dayC_1, dayC_21, dayC_221, dayC_222, inI_1, inI_2, inI_3, inI_5, inI_11, inI_16] at c10
      refine A_iconst 14 (0) dX10_ways_13 rfl (by decide) ?_
      refine A_iload_n 15 dX10_ways_14 rfl rfl rfl ?_
      refine A_iconst 16 (1) dX10_ways_15 rfl (by decide) ?_
      refine A_callSI 19 (S_X10_wrongBit X l) dX10_ways_16 rfl kX10_wrongBit lk_X10_225 rfl (by decide) rfl (Nat.le_of_ble_eq_true rfl) (fun v_3 h_3 qh_3 => ?_)
      obtain ⟨rfl, rfl⟩ := qh_3
      refine A_goto 23 dX10_ways_19 (by decide) ?_
      exact j23 _ (by first | (simp only [c10, if_true, if_false, ite_true, ite_false, and_true, true_and, and_false, false_and, and_self, or_true, true_or, or_false, false_or, or_self, not_true_eq_false, not_false_eq_true, decide_true, decide_false, Bool.and_true, Bool.true_and, Bool.and_false, Bool.false_and, Bool.and_self, Bool.or_true, Bool.true_or, Bool.or_false, Bool.false_or, Bool.not_true, Bool.not_false, cond_true, cond_false, bI_t, bI_f, Bool.false_eq_true, Bool.true_eq_false, dayC_1, dayC_21, dayC_221, dayC_222, w01, wP, wPL, wP01, wL01, wRow, w01R, wAB, wNum, isP, isL, wrB_N, wrB_0, wrB_1]; done) | (simp only [c10, if_true, if_false, ite_true, ite_false, and_true, true_and, and_false, false_and, and_self, or_true, true_or, or_false, false_or, or_self, not_true_eq_false, not_false_eq_true, decide_true, decide_false, Bool.and_true, Bool.true_and, Bool.and_false, Bool.false_and, Bool.and_self, Bool.or_true, Bool.true_or, Bool.or_false, Bool.false_or, Bool.not_true, Bool.not_false, cond_true, cond_false, bI_t, bI_f, Bool.false_eq_true, Bool.true_eq_false, dayC_1, dayC_21, dayC_221, dayC_222, wrN, w01, wP, wPL, wP01, wL01, wRow, w01R, wAB, wNum, isP, isL, wrB_N, wrB_0, wrB_1]; done) | (simp only [c10, if_true, if_false, ite_true, ite_false, and_true, true_and, and_false, false_and, and_self, or_true, true_or, or_false, false_or, or_self, not_true_eq_false, not_false_eq_true, decide_true, decide_false, Bool.and_true, Bool.true_and, Bool.and_false, Bool.false_and, Bool.and_self, Bool.or_true, Bool.true_or, Bool.or_false, Bool.false_or, Bool.not_true, Bool.not_false, cond_true, cond_false, bI_t, bI_f, Bool.false_eq_true, Bool.true_eq_false, dayC_1, dayC_21, dayC_221, dayC_222, wrN, w01, wP, wPL, wP01, wL01, wRow, w01R, wAB, wNum, isP, isL, wrB_N, wrB_0, wrB_1]; rfl))
  subst e23
  refine A_istore_n 24 dX10_ways_23 rfl rfl (by decide) (by first | exact (ast_s (ast_s (ast_1 rfl))) | exact (ast_s (ast_s ast_k))) ?_
  refine A_iload_n 25 dX10_ways_24 rfl rfl rfl ?_
  refine A_if_ge 34 28 dX10_ways_25 (by decide) rfl (fun c25 => ?_) (fun c25 => ?_)
  · skip
    try simp only [bI_0, bI_n0, Classical.not_not, Bool.not_eq_false, Bool.true_and, Bool.and_true, decide_eq_true_eq, decide_eq_false_iff_not, dayC_1, dayC_21, dayC_221, dayC_222, inI_1, inI_2, inI_3, inI_5, inI_11, inI_16] at c25
    have n25 := c25
    replace c25 := Int32.not_lt.mpr c25
    have hw0 : wL01 x l0 v = 0 := cz_pos wL01_cz c25
    obtain ⟨f1, f2⟩ := wL01_0 hw0
    obtain ⟨k_l0, rfl, hk_l0⟩ := inN_ex f1 (by omega)
    have cl_l0 : (nI k_l0).toNatClampNeg = k_l0 := nI_clamp (by omega)
    have hk6_l0 : k_l0 < 10 := by omega
    refine A_iconst 35 (0) dX10_ways_34 rfl (by decide) ?_
    refine A_istore 37 dX10_ways_35 rfl (by decide) (by first | exact (ast_s (ast_s (ast_s (ast_1 rfl)))) | exact (ast_s (ast_s (ast_s ast_k)))) ?_
    refine A_bipush 39 (-9) dX10_ways_37 rfl (by decide) ?_
    refine A_istore 41 dX10_ways_39 rfl (by decide) (by first | exact (ast_s (ast_s (ast_s (ast_s (ast_1 rfl))))) | exact (ast_s (ast_s (ast_s (ast_s ast_k))))) ?_
    refine A_iconst 42 (0) dX10_ways_41 rfl (by decide) ?_
    refine A_istore 44 dX10_ways_42 rfl (by decide) (by first | exact (ast_s (ast_s (ast_s (ast_s (ast_s (ast_1 rfl)))))) | exact (ast_s (ast_s (ast_s (ast_s (ast_s ast_k)))))) ?_
    have L44 : ∀ (nq i : Nat) (u b : Int32) (g44 : Hp) (z2 : RZ), (nq + i = 256) → (foldN (wwF x (nI k_l0)) ((0, -9)) i = (u, b)) → (b = -9 ∨ R8 b) → (g44 28 = some (rB x (-1) c z2)) → (∀ i, i ≠ 28 → g44 i = h i) → Av X l mX10_ways 44 [some (aR 28 0), some (aI (nI (k_l0))), some (aI (v)), none, some (aI (u)), some (aI (b)), some (aI (nI (i))), none] [] g44 (QI (fun vr h2 => (rV (wL01 x (nI k_l0) v) (aWays x (nI k_l0) v)) = vr ∧ ∃ (z1 : RZ), h2 (28) = some (rB x (-1) (rS (wL01 x (nI k_l0) v) c.1, c.2) z1) ∧ ∀ i, i ≠ 28 → h2 i = h i)) := by
      intro nq
      induction nq using Nat.strongRecOn with
      | _ nq ih =>
      intro i u b g44 z2 en ee hy O28 hf
      refine A_iload 46 dX10_ways_44 rfl rfl ?_
      refine A_sipush 49 (256) dX10_ways_46 rfl (by decide) ?_
      refine A_icmp_ge 117 52 dX10_ways_49 (by decide) rfl (fun c49 => ?_) (fun c49 => ?_)
      · skip
        obtain rfl := (up_ge_T (N := 256) c49 rfl (by omega) (by omega)).symm
        refine A_iload_n 118 dX10_ways_117 rfl rfl rfl ?_
        refine A_if_ne 126 121 dX10_ways_118 (by decide) rfl (fun c118 => ?_) (fun c118 => ?_)
        · skip
          try simp only [bI_0, bI_n0, Classical.not_not, Bool.not_eq_false, Bool.true_and, Bool.and_true, decide_eq_true_eq, decide_eq_false_iff_not, dayC_1, dayC_21, dayC_221, dayC_222, inI_1, inI_2, inI_3, inI_5, inI_11, inI_16] at c118
          refine A_iload 128 dX10_ways_126 rfl rfl ?_
          refine A_iret dX10_ways_128 rfl ⟨_, rfl, (by rw [hw0, rV_0]; rw [ww_eq] at ee; unfold aWays; obtain ⟨e1, e2⟩ := Prod.mk.inj ee; first | rw [if_pos c118, e1] | rw [if_neg c118, e2]), _, (by rw [hw0, rS_0]; exact O28), hf⟩
        · skip
          try simp only [bI_0, bI_n0, Classical.not_not, Bool.not_eq_false, Bool.true_and, Bool.and_true, decide_eq_true_eq, decide_eq_false_iff_not, dayC_1, dayC_21, dayC_221, dayC_222, inI_1, inI_2, inI_3, inI_5, inI_11, inI_16] at c118
          refine A_iload 123 dX10_ways_121 rfl rfl ?_
          refine A_goto 128 dX10_ways_123 (by decide) ?_
          refine A_iret dX10_ways_128 rfl ⟨_, rfl, (by rw [hw0, rV_0]; rw [ww_eq] at ee; unfold aWays; obtain ⟨e1, e2⟩ := Prod.mk.inj ee; first | rw [if_pos c118, e1] | rw [if_neg c118, e2]), _, (by rw [hw0, rS_0]; exact O28), hf⟩
      · skip
        have hi := up_ge_F (N := 256) c49 rfl (by omega) (by omega)
        obtain ⟨n0, rfl⟩ : ∃ q, nq = q + 1 := ⟨nq - 1, by omega⟩
        refine A_aload_n 53 dX10_ways_52 rfl rfl rfl ?_
        refine A_iload 55 dX10_ways_53 rfl rfl ?_
        refine A_callVI 58 (S_X10_goDay_n X l (by first | assumption | decide | omega | exact Ne.symm (by assumption)) (by first | assumption | decide | omega | exact Ne.symm (by assumption))) dX10_ways_55 rfl kX10_goDay lk_X10_108 rfl O28 (by decide) rfl (Nat.le_of_ble_eq_true rfl) (fun v_4 h_4 qh_4 => ?_)
        obtain ⟨rfl, n0h_4, eh_4⟩ := qh_4
        replace O28 := n0h_4
        replace hf : ∀ i, i ≠ 28 → h_4 i = h i := fun i g0 => (eh_4 i g0).trans (hf i g0)
        refine A_iload_n 59 dX10_ways_58 rfl rfl rfl ?_
        refine A_callSI 62 (S_X10_hasBit X l) dX10_ways_59 rfl kX10_hasBit lk_X10_93 rfl (by decide) rfl (Nat.le_of_ble_eq_true rfl) (fun v_5 h_5 qh_5 => ?_)
        obtain ⟨rfl, rfl⟩ := qh_5
        refine A_istore 64 dX10_ways_62 rfl (by decide) (by first | exact (ast_s (ast_s (ast_s (ast_s (ast_s (ast_s (ast_1 rfl))))))) | exact (ast_s (ast_s (ast_s (ast_s (ast_s (ast_s ast_k))))))) ?_
        refine A_iload 66 dX10_ways_64 rfl rfl ?_
        refine A_iload 68 dX10_ways_66 rfl rfl ?_
        refine A_if_eq 75 71 dX10_ways_68 (by decide) rfl (fun c68 => ?_) (fun c68 => ?_)
        · skip
          try simp only [bI_0, bI_n0, Classical.not_not, Bool.not_eq_false, Bool.true_and, Bool.and_true, decide_eq_true_eq, decide_eq_false_iff_not, dayC_1, dayC_21, dayC_221, dayC_222, inI_1, inI_2, inI_3, inI_5, inI_11, inI_16] at c68
          refine A_iconst 76 (0) dX10_ways_75 rfl (by decide) ?_
          refine A_iadd 77 dX10_ways_76 rfl ?_
          refine A_istore 79 dX10_ways_77 rfl (by decide) (by first | exact (ast_s (ast_s (ast_s (ast_1 rfl)))) | exact (ast_s (ast_s (ast_s ast_k)))) ?_
          refine A_iload 81 dX10_ways_79 rfl rfl ?_
          refine A_if_eq 107 84 dX10_ways_81 (by decide) rfl (fun c81 => ?_) (fun c81 => ?_)
          · skip
            try simp only [bI_0, bI_n0, Classical.not_not, Bool.not_eq_false, Bool.true_and, Bool.and_true, decide_eq_true_eq, decide_eq_false_iff_not, dayC_1, dayC_21, dayC_221, dayC_222, inI_1, inI_2, inI_3, inI_5, inI_11, inI_16] at c81
            refine A_iload 109 dX10_ways_107 rfl rfl ?_
            refine A_istore 111 dX10_ways_109 rfl (by decide) (by first | exact (ast_s (ast_s (ast_s (ast_s (ast_1 rfl))))) | exact (ast_s (ast_s (ast_s (ast_s ast_k))))) ?_
            first | refine A_iincN 114 dX10_ways_111 rfl rfl (by decide) (by first | exact (ast_s (ast_s (ast_s (ast_s (ast_s (ast_1 rfl)))))) | exact (ast_s (ast_s (ast_s (ast_s (ast_s ast_k)))))) ?_ | refine A_iinc 114 (1) dX10_ways_111 rfl rfl (by decide) (by decide) (by first | exact (ast_s (ast_s (ast_s (ast_s (ast_s (ast_1 rfl)))))) | exact (ast_s (ast_s (ast_s (ast_s (ast_s ast_k)))))) ?_
            refine A_goto 44 dX10_ways_114 (by decide) ?_
            exact A_weak (ih n0 (Nat.lt_succ_self n0) (i + 1) _ _ h_4 _ (by omega) ((foldN_s (wwF x (nI k_l0)) ((0, -9)) i).trans ((congrArg ((wwF x (nI k_l0)) i) ee).trans (by first | with_reducible rfl | (simp only [c25, n25, cl_l0, c68, c81, if_true, if_false, ite_true, ite_false, and_true, true_and, and_false, false_and, and_self, or_true, true_or, or_false, false_or, or_self, not_true_eq_false, not_false_eq_true, decide_true, decide_false, Bool.and_true, Bool.true_and, Bool.and_false, Bool.false_and, Bool.and_self, Bool.or_true, Bool.true_or, Bool.or_false, Bool.false_or, Bool.not_true, Bool.not_false, cond_true, cond_false, bI_t, bI_f, Bool.false_eq_true, Bool.true_eq_false, dayC_1, dayC_21, dayC_221, dayC_222, wwF, wyF, fbF, Int32.and_zero, Int32.zero_or, Int32.add_zero]; done) | (simp only [c25, n25, cl_l0, eq_true c68, eq_true c81, if_true, if_false, ite_true, ite_false, and_true, true_and, and_false, false_and, and_self, or_true, true_or, or_false, false_or, or_self, not_true_eq_false, not_false_eq_true, decide_true, decide_false, Bool.and_true, Bool.true_and, Bool.and_false, Bool.false_and, Bool.and_self, Bool.or_true, Bool.true_or, Bool.or_false, Bool.false_or, Bool.not_true, Bool.not_false, cond_true, cond_false, bI_t, bI_f, Bool.false_eq_true, Bool.true_eq_false, dayC_1, dayC_21, dayC_221, dayC_222, wwF, wyF, fbF, Int32.and_zero, Int32.zero_or, Int32.add_zero]; done) | (with_reducible first | exact absurd c25 c68 | exact absurd c25 c81 | exact absurd c25 hy | exact absurd c25 hyb | exact absurd c68 c25 | exact absurd c68 c81 | exact absurd c68 hy | exact absurd c68 hyb | exact absurd c81 c25 | exact absurd c81 c68 | exact absurd c81 hy | exact absurd c81 hyb | exact absurd hy c25 | exact absurd hy c68 | exact absurd hy c81 | exact absurd hy hyb | exact absurd hyb c25 | exact absurd hyb c68 | exact absurd hyb c81 | exact absurd hyb hy | (rw [c25] at c68; cases c68) | (rw [c25] at c81; cases c81) | (rw [c68] at c25; cases c25) | (rw [c68] at c81; cases c81) | (rw [c81] at c25; cases c25) | (rw [c81] at c68; cases c68)) | (simp [*, wwF, wyF, fbF, Int32.and_zero, Int32.zero_or, Int32.add_zero]; done) | with_reducible_and_instances rfl))) (by first | exact hy | exact Or.inr ⟨i, hi, rfl⟩) O28 hf) (sub_s (sub_s (sub_s (sub_n (sub_s (sub_s (sub_s (sub_n sub_nil))))))))
          · skip
            try simp only [bI_0, bI_n0, Classical.not_not, Bool.not_eq_false, Bool.true_and, Bool.and_true, decide_eq_true_eq, decide_eq_false_iff_not, dayC_1, dayC_21, dayC_221, dayC_222, inI_1, inI_2, inI_3, inI_5, inI_11, inI_16] at c81
            refine A_iload 86 dX10_ways_84 rfl rfl ?_
            refine A_if_lt 102 89 dX10_ways_86 (by decide) rfl (fun c86 => ?_) (fun c86 => ?_)
            · skip
              try simp only [bI_0, bI_n0, Classical.not_not, Bool.not_eq_false, Bool.true_and, Bool.and_true, decide_eq_true_eq, decide_eq_false_iff_not, dayC_1, dayC_21, dayC_221, dayC_222, inI_1, inI_2, inI_3, inI_5, inI_11, inI_16] at c86
              have n86 := Int32.not_le.mpr c86
              have cl_9 : b = -9 := neg9 hy c86
              refine A_iload 104 dX10_ways_102 rfl rfl ?_
              refine A_goto 109 dX10_ways_104 (by decide) ?_
              refine A_istore 111 dX10_ways_109 rfl (by decide) (by first | exact (ast_s (ast_s (ast_s (ast_s (ast_1 rfl))))) | exact (ast_s (ast_s (ast_s (ast_s ast_k))))) ?_
              first | refine A_iincN 114 dX10_ways_111 rfl rfl (by decide) (by first | exact (ast_s (ast_s (ast_s (ast_s (ast_s (ast_1 rfl)))))) | exact (ast_s (ast_s (ast_s (ast_s (ast_s ast_k)))))) ?_ | refine A_iinc 114 (1) dX10_ways_111 rfl rfl (by decide) (by decide) (by first | exact (ast_s (ast_s (ast_s (ast_s (ast_s (ast_1 rfl)))))) | exact (ast_s (ast_s (ast_s (ast_s (ast_s ast_k)))))) ?_
              refine A_goto 44 dX10_ways_114 (by decide) ?_
              exact A_weak (ih n0 (Nat.lt_succ_self n0) (i + 1) _ _ h_4 _ (by omega) ((foldN_s (wwF x (nI k_l0)) ((0, -9)) i).trans ((congrArg ((wwF x (nI k_l0)) i) ee).trans (by first | with_reducible rfl | (simp only [c25, n25, cl_l0, c68, c81, c86, n86, cl_9, if_true, if_false, ite_true, ite_false, and_true, true_and, and_false, false_and, and_self, or_true, true_or, or_false, false_or, or_self, not_true_eq_false, not_false_eq_true, decide_true, decide_false, Bool.and_true, Bool.true_and, Bool.and_false, Bool.false_and, Bool.and_self, Bool.or_true, Bool.true_or, Bool.or_false, Bool.false_or, Bool.not_true, Bool.not_false, cond_true, cond_false, bI_t, bI_f, Bool.false_eq_true, Bool.true_eq_false, dayC_1, dayC_21, dayC_221, dayC_222, wwF, wyF, fbF, Int32.and_zero, Int32.zero_or, Int32.add_zero]; done) | (simp only [c25, n25, cl_l0, eq_true c68, c81, c86, n86, cl_9, if_true, if_false, ite_true, ite_false, and_true, true_and, and_false, false_and, and_self, or_true, true_or, or_false, false_or, or_self, not_true_eq_false, not_false_eq_true, decide_true, decide_false, Bool.and_true, Bool.true_and, Bool.and_false, Bool.false_and, Bool.and_self, Bool.or_true, Bool.true_or, Bool.or_false, Bool.false_or, Bool.not_true, Bool.not_false, cond_true, cond_false, bI_t, bI_f, Bool.false_eq_true, Bool.true_eq_false, dayC_1, dayC_21, dayC_221, dayC_222, wwF, wyF, fbF, Int32.and_zero, Int32.zero_or, Int32.add_zero]; done) | (with_reducible first | exact absurd c25 c68 | exact absurd c25 c81 | exact absurd c25 c86 | exact absurd c25 hy | exact absurd c25 hyb | exact absurd c68 c25 | exact absurd c68 c81 | exact absurd c68 c86 | exact absurd c68 hy | exact absurd c68 hyb | exact absurd c81 c25 | exact absurd c81 c68 | exact absurd c81 c86 | exact absurd c81 hy | exact absurd c81 hyb | exact absurd c86 c25 | exact absurd c86 c68 | exact absurd c86 c81 | exact absurd c86 hy | exact absurd c86 hyb | exact absurd hy c25 | exact absurd hy c68 | exact absurd hy c81 | exact absurd hy c86 | exact absurd hy hyb | exact absurd hyb c25 | exact absurd hyb c68 | exact absurd hyb c81 | exact absurd hyb c86 | exact absurd hyb hy | (rw [c25] at c68; cases c68) | (rw [c25] at c81; cases c81) | (rw [c25] at c86; cases c86) | (rw [c68] at c25; cases c25) | (rw [c68] at c81; cases c81) | (rw [c68] at c86; cases c86) | (rw [c81] at c25; cases c25) | (rw [c81] at c68; cases c68) | (rw [c81] at c86; cases c86) | (rw [c86] at c25; cases c25) | (rw [c86] at c68; cases c68) | (rw [c86] at c81; cases c81)) | (simp [*, wwF, wyF, fbF, Int32.and_zero, Int32.zero_or, Int32.add_zero]; done) | with_reducible_and_instances rfl))) (by first | exact hy | exact Or.inr ⟨i, hi, rfl⟩) O28 hf) (sub_s (sub_s (sub_s (sub_n (sub_s (sub_s (sub_s (sub_n sub_nil))))))))
            · skip
              try simp only [bI_0, bI_n0, Classical.not_not, Bool.not_eq_false, Bool.true_and, Bool.and_true, decide_eq_true_eq, decide_eq_false_iff_not, dayC_1, dayC_21, dayC_221, dayC_222, inI_1, inI_2, inI_3, inI_5, inI_11, inI_16] at c86
              have n86 := Int32.not_lt.mp c86
              have cl_9 : ¬ b = -9 := (pos9 hy c86).1
              have hR9 := (pos9 hy c86).2
              refine A_iload 91 dX10_ways_89 rfl rfl ?_
              refine A_callSI 94 (S_X10_onesOf_r X l (by first | assumption | exact R10.nI (by omega) | exact dDone_R (by assumption) _ _ | exact R8.r10 (by assumption) | exact (WOK_pk (by assumption) (by omega)).r10 | exact (WOK_tr (by assumption)).r10 | exact R10_and _ (dDone_R (by assumption) _ _))) dX10_ways_91 rfl kX10_onesOf lk_X10_112 rfl (by decide) rfl (Nat.le_of_ble_eq_true rfl) (fun v_6 h_6 qh_6 => ?_)
              obtain ⟨rfl, rfl⟩ := qh_6
              refine A_iload 96 dX10_ways_94 rfl rfl ?_
              refine A_callSI 99 (S_X10_onesOf_r X l (by first | assumption | exact R10.nI (by omega) | exact dDone_R (by assumption) _ _ | exact R8.r10 (by assumption) | exact (WOK_pk (by assumption) (by omega)).r10 | exact (WOK_tr (by assumption)).r10 | exact R10_and _ (dDone_R (by assumption) _ _))) dX10_ways_96 rfl kX10_onesOf lk_X10_112 rfl (by decide) rfl (Nat.le_of_ble_eq_true rfl) (fun v_7 h_7 qh_7 => ?_)
              obtain ⟨rfl, rfl⟩ := qh_7
              refine A_icmp_ge 107 102 dX10_ways_99 (by decide) rfl (fun c99 => ?_) (fun c99 => ?_)
              · skip
                try simp only [bI_0, bI_n0, Classical.not_not, Bool.not_eq_false, Bool.true_and, Bool.and_true, decide_eq_true_eq, decide_eq_false_iff_not, dayC_1, dayC_21, dayC_221, dayC_222, inI_1, inI_2, inI_3, inI_5, inI_11, inI_16] at c99
                have n99 := c99
                replace c99 := Int32.not_lt.mpr c99
                refine A_iload 109 dX10_ways_107 rfl rfl ?_
                refine A_istore 111 dX10_ways_109 rfl (by decide) (by first | exact (ast_s (ast_s (ast_s (ast_s (ast_1 rfl))))) | exact (ast_s (ast_s (ast_s (ast_s ast_k))))) ?_
                first | refine A_iincN 114 dX10_ways_111 rfl rfl (by decide) (by first | exact (ast_s (ast_s (ast_s (ast_s (ast_s (ast_1 rfl)))))) | exact (ast_s (ast_s (ast_s (ast_s (ast_s ast_k)))))) ?_ | refine A_iinc 114 (1) dX10_ways_111 rfl rfl (by decide) (by decide) (by first | exact (ast_s (ast_s (ast_s (ast_s (ast_s (ast_1 rfl)))))) | exact (ast_s (ast_s (ast_s (ast_s (ast_s ast_k)))))) ?_
                refine A_goto 44 dX10_ways_114 (by decide) ?_
                exact A_weak (ih n0 (Nat.lt_succ_self n0) (i + 1) _ _ h_4 _ (by omega) ((foldN_s (wwF x (nI k_l0)) ((0, -9)) i).trans ((congrArg ((wwF x (nI k_l0)) i) ee).trans (by first | with_reducible rfl | (simp only [c25, n25, cl_l0, c68, c81, c86, n86, cl_9, c99, n99, if_true, if_false, ite_true, ite_false, and_true, true_and, and_false, false_and, and_self, or_true, true_or, or_false, false_or, or_self, not_true_eq_false, not_false_eq_true, decide_true, decide_false, Bool.and_true, Bool.true_and, Bool.and_false, Bool.false_and, Bool.and_self, Bool.or_true, Bool.true_or, Bool.or_false, Bool.false_or, Bool.not_true, Bool.not_false, cond_true, cond_false, bI_t, bI_f, Bool.false_eq_true, Bool.true_eq_false, dayC_1, dayC_21, dayC_221, dayC_222, wwF, wyF, fbF, Int32.and_zero, Int32.zero_or, Int32.add_zero]; done) | (simp only [c25, n25, cl_l0, eq_true c68, c81, c86, n86, cl_9, c99, n99, if_true, if_false, ite_true, ite_false, and_true, true_and, and_false, false_and, and_self, or_true, true_or, or_false, false_or, or_self, not_true_eq_false, not_false_eq_true, decide_true, decide_false, Bool.and_true, Bool.true_and, Bool.and_false, Bool.false_and, Bool.and_self, Bool.or_true, Bool.true_or, Bool.or_false, Bool.false_or, Bool.not_true, Bool.not_false, cond_true, cond_false, bI_t, bI_f, Bool.false_eq_true, Bool.true_eq_false, dayC_1, dayC_21, dayC_221, dayC_222, wwF, wyF, fbF, Int32.and_zero, Int32.zero_or, Int32.add_zero]; done) | (with_reducible first | exact absurd c25 c68 | exact absurd c25 c81 | exact absurd c25 c86 | exact absurd c25 c99 | exact absurd c25 hy | exact absurd c25 hyb | exact absurd c68 c25 | exact absurd c68 c81 | exact absurd c68 c86 | exact absurd c68 c99 | exact absurd c68 hy | exact absurd c68 hyb | exact absurd c81 c25 | exact absurd c81 c68 | exact absurd c81 c86 | exact absurd c81 c99 | exact absurd c81 hy | exact absurd c81 hyb | exact absurd c86 c25 | exact absurd c86 c68 | exact absurd c86 c81 | exact absurd c86 c99 | exact absurd c86 hy | exact absurd c86 hyb | exact absurd c99 c25 | exact absurd c99 c68 | exact absurd c99 c81 | exact absurd c99 c86 | exact absurd c99 hy | exact absurd c99 hyb | exact absurd hy c25 | exact absurd hy c68 | exact absurd hy c81 | exact absurd hy c86 | exact absurd hy c99 | exact absurd hy hyb | exact absurd hyb c25 | exact absurd hyb c68 | exact absurd hyb c81 | exact absurd hyb c86 | exact absurd hyb c99 | exact absurd hyb hy | (rw [c25] at c68; cases c68) | (rw [c25] at c81; cases c81) | (rw [c25] at c86; cases c86) | (rw [c25] at c99; cases c99) | (rw [c68] at c25; cases c25) | (rw [c68] at c81; cases c81) | (rw [c68] at c86; cases c86) | (rw [c68] at c99; cases c99) | (rw [c81] at c25; cases c25) | (rw [c81] at c68; cases c68) | (rw [c81] at c86; cases c86) | (rw [c81] at c99; cases c99) | (rw [c86] at c25; cases c25) | (rw [c86] at c68; cases c68) | (rw [c86] at c81; cases c81) | (rw [c86] at c99; cases c99) | (rw [c99] at c25; cases c25) | (rw [c99] at c68; cases c68) | (rw [c99] at c81; cases c81) | (rw [c99] at c86; cases c86)) | (simp [*, wwF, wyF, fbF, Int32.and_zero, Int32.zero_or, Int32.add_zero]; done) | with_reducible_and_instances rfl))) (by first | exact hy | exact Or.inr ⟨i, hi, rfl⟩) O28 hf) (sub_s (sub_s (sub_s (sub_n (sub_s (sub_s (sub_s (sub_n sub_nil))))))))
              · skip
                try simp only [bI_0, bI_n0, Classical.not_not, Bool.not_eq_false, Bool.true_and, Bool.and_true, decide_eq_true_eq, decide_eq_false_iff_not, dayC_1, dayC_21, dayC_221, dayC_222, inI_1, inI_2, inI_3, inI_5, inI_11, inI_16] at c99
                have n99 := c99
                replace c99 := Int32.not_le.mp c99
                refine A_iload 104 dX10_ways_102 rfl rfl ?_
                refine A_goto 109 dX10_ways_104 (by decide) ?_
                refine A_istore 111 dX10_ways_109 rfl (by decide) (by first | exact (ast_s (ast_s (ast_s (ast_s (ast_1 rfl))))) | exact (ast_s (ast_s (ast_s (ast_s ast_k))))) ?_
                first | refine A_iincN 114 dX10_ways_111 rfl rfl (by decide) (by first | exact (ast_s (ast_s (ast_s (ast_s (ast_s (ast_1 rfl)))))) | exact (ast_s (ast_s (ast_s (ast_s (ast_s ast_k)))))) ?_ | refine A_iinc 114 (1) dX10_ways_111 rfl rfl (by decide) (by decide) (by first | exact (ast_s (ast_s (ast_s (ast_s (ast_s (ast_1 rfl)))))) | exact (ast_s (ast_s (ast_s (ast_s (ast_s ast_k)))))) ?_
                refine A_goto 44 dX10_ways_114 (by decide) ?_
                exact A_weak (ih n0 (Nat.lt_succ_self n0) (i + 1) _ _ h_4 _ (by omega) ((foldN_s (wwF x (nI k_l0)) ((0, -9)) i).trans ((congrArg ((wwF x (nI k_l0)) i) ee).trans (by first | with_reducible rfl | (simp only [c25, n25, cl_l0, c68, c81, c86, n86, cl_9, c99, n99, if_true, if_false, ite_true, ite_false, and_true, true_and, and_false, false_and, and_self, or_true, true_or, or_false, false_or, or_self, not_true_eq_false, not_false_eq_true, decide_true, decide_false, Bool.and_true, Bool.true_and, Bool.and_false, Bool.false_and, Bool.and_self, Bool.or_true, Bool.true_or, Bool.or_false, Bool.false_or, Bool.not_true, Bool.not_false, cond_true, cond_false, bI_t, bI_f, Bool.false_eq_true, Bool.true_eq_false, dayC_1, dayC_21, dayC_221, dayC_222, wwF, wyF, fbF, Int32.and_zero, Int32.zero_or, Int32.add_zero]; done) | (simp only [c25, n25, cl_l0, eq_true c68, c81, c86, n86, cl_9, c99, n99, if_true, if_false, ite_true, ite_false, and_true, true_and, and_false, false_and, and_self, or_true, true_or, or_false, false_or, or_self, not_true_eq_false, not_false_eq_true, decide_true, decide_false, Bool.and_true, Bool.true_and, Bool.and_false, Bool.false_and, Bool.and_self, Bool.or_true, Bool.true_or, Bool.or_false, Bool.false_or, Bool.not_true, Bool.not_false, cond_true, cond_false, bI_t, bI_f, Bool.false_eq_true, Bool.true_eq_false, dayC_1, dayC_21, dayC_221, dayC_222, wwF, wyF, fbF, Int32.and_zero, Int32.zero_or, Int32.add_zero]; done) | (with_reducible first | exact absurd c25 c68 | exact absurd c25 c81 | exact absurd c25 c86 | exact absurd c25 c99 | exact absurd c25 hy | exact absurd c25 hyb | exact absurd c68 c25 | exact absurd c68 c81 | exact absurd c68 c86 | exact absurd c68 c99 | exact absurd c68 hy | exact absurd c68 hyb | exact absurd c81 c25 | exact absurd c81 c68 | exact absurd c81 c86 | exact absurd c81 c99 | exact absurd c81 hy | exact absurd c81 hyb | exact absurd c86 c25 | exact absurd c86 c68 | exact absurd c86 c81 | exact absurd c86 c99 | exact absurd c86 hy | exact absurd c86 hyb | exact absurd c99 c25 | exact absurd c99 c68 | exact absurd c99 c81 | exact absurd c99 c86 | exact absurd c99 hy | exact absurd c99 hyb | exact absurd hy c25 | exact absurd hy c68 | exact absurd hy c81 | exact absurd hy c86 | exact absurd hy c99 | exact absurd hy hyb | exact absurd hyb c25 | exact absurd hyb c68 | exact absurd hyb c81 | exact absurd hyb c86 | exact absurd hyb c99 | exact absurd hyb hy | (rw [c25] at c68; cases c68) | (rw [c25] at c81; cases c81) | (rw [c25] at c86; cases c86) | (rw [c25] at c99; cases c99) | (rw [c68] at c25; cases c25) | (rw [c68] at c81; cases c81) | (rw [c68] at c86; cases c86) | (rw [c68] at c99; cases c99) | (rw [c81] at c25; cases c25) | (rw [c81] at c68; cases c68) | (rw [c81] at c86; cases c86) | (rw [c81] at c99; cases c99) | (rw [c86] at c25; cases c25) | (rw [c86] at c68; cases c68) | (rw [c86] at c81; cases c81) | (rw [c86] at c99; cases c99) | (rw [c99] at c25; cases c25) | (rw [c99] at c68; cases c68) | (rw [c99] at c81; cases c81) | (rw [c99] at c86; cases c86)) | (simp [*, wwF, wyF, fbF, Int32.and_zero, Int32.zero_or, Int32.add_zero]; done) | with_reducible_and_instances rfl))) (by first | exact hy | exact Or.inr ⟨i, hi, rfl⟩) O28 hf) (sub_s (sub_s (sub_s (sub_n (sub_s (sub_s (sub_s (sub_n sub_nil))))))))
        · skip
          try simp only [bI_0, bI_n0, Classical.not_not, Bool.not_eq_false, Bool.true_and, Bool.and_true, decide_eq_true_eq, decide_eq_false_iff_not, dayC_1, dayC_21, dayC_221, dayC_222, inI_1, inI_2, inI_3, inI_5, inI_11, inI_16] at c68
          refine A_iconst 72 (1) dX10_ways_71 rfl (by decide) ?_
          refine A_goto 76 dX10_ways_72 (by decide) ?_
          refine A_iadd 77 dX10_ways_76 rfl ?_
          refine A_istore 79 dX10_ways_77 rfl (by decide) (by first | exact (ast_s (ast_s (ast_s (ast_1 rfl)))) | exact (ast_s (ast_s (ast_s ast_k)))) ?_
          refine A_iload 81 dX10_ways_79 rfl rfl ?_
          refine A_if_eq 107 84 dX10_ways_81 (by decide) rfl (fun c81 => ?_) (fun c81 => ?_)
          · skip
            try simp only [bI_0, bI_n0, Classical.not_not, Bool.not_eq_false, Bool.true_and, Bool.and_true, decide_eq_true_eq, decide_eq_false_iff_not, dayC_1, dayC_21, dayC_221, dayC_222, inI_1, inI_2, inI_3, inI_5, inI_11, inI_16] at c81
            refine A_iload 109 dX10_ways_107 rfl rfl ?_
            refine A_istore 111 dX10_ways_109 rfl (by decide) (by first | exact (ast_s (ast_s (ast_s (ast_s (ast_1 rfl))))) | exact (ast_s (ast_s (ast_s (ast_s ast_k))))) ?_
            first | refine A_iincN 114 dX10_ways_111 rfl rfl (by decide) (by first | exact (ast_s (ast_s (ast_s (ast_s (ast_s (ast_1 rfl)))))) | exact (ast_s (ast_s (ast_s (ast_s (ast_s ast_k)))))) ?_ | refine A_iinc 114 (1) dX10_ways_111 rfl rfl (by decide) (by decide) (by first | exact (ast_s (ast_s (ast_s (ast_s (ast_s (ast_1 rfl)))))) | exact (ast_s (ast_s (ast_s (ast_s (ast_s ast_k)))))) ?_
            refine A_goto 44 dX10_ways_114 (by decide) ?_
            exact A_weak (ih n0 (Nat.lt_succ_self n0) (i + 1) _ _ h_4 _ (by omega) ((foldN_s (wwF x (nI k_l0)) ((0, -9)) i).trans ((congrArg ((wwF x (nI k_l0)) i) ee).trans (by first | with_reducible rfl | (simp only [c25, n25, cl_l0, c68, c81, if_true, if_false, ite_true, ite_false, and_true, true_and, and_false, false_and, and_self, or_true, true_or, or_false, false_or, or_self, not_true_eq_false, not_false_eq_true, decide_true, decide_false, Bool.and_true, Bool.true_and, Bool.and_false, Bool.false_and, Bool.and_self, Bool.or_true, Bool.true_or, Bool.or_false, Bool.false_or, Bool.not_true, Bool.not_false, cond_true, cond_false, bI_t, bI_f, Bool.false_eq_true, Bool.true_eq_false, dayC_1, dayC_21, dayC_221, dayC_222, wwF, wyF, fbF, Int32.and_zero, Int32.zero_or, Int32.add_zero]; done) | (simp only [c25, n25, cl_l0, c68, eq_true c81, if_true, if_false, ite_true, ite_false, and_true, true_and, and_false, false_and, and_self, or_true, true_or, or_false, false_or, or_self, not_true_eq_false, not_false_eq_true, decide_true, decide_false, Bool.and_true, Bool.true_and, Bool.and_false, Bool.false_and, Bool.and_self, Bool.or_true, Bool.true_or, Bool.or_false, Bool.false_or, Bool.not_true, Bool.not_false, cond_true, cond_false, bI_t, bI_f, Bool.false_eq_true, Bool.true_eq_false, dayC_1, dayC_21, dayC_221, dayC_222, wwF, wyF, fbF, Int32.and_zero, Int32.zero_or, Int32.add_zero]; done) | (with_reducible first | exact absurd c25 c68 | exact absurd c25 c81 | exact absurd c25 hy | exact absurd c25 hyb | exact absurd c68 c25 | exact absurd c68 c81 | exact absurd c68 hy | exact absurd c68 hyb | exact absurd c81 c25 | exact absurd c81 c68 | exact absurd c81 hy | exact absurd c81 hyb | exact absurd hy c25 | exact absurd hy c68 | exact absurd hy c81 | exact absurd hy hyb | exact absurd hyb c25 | exact absurd hyb c68 | exact absurd hyb c81 | exact absurd hyb hy | (rw [c25] at c68; cases c68) | (rw [c25] at c81; cases c81) | (rw [c68] at c25; cases c25) | (rw [c68] at c81; cases c81) | (rw [c81] at c25; cases c25) | (rw [c81] at c68; cases c68)) | (simp [*, wwF, wyF, fbF, Int32.and_zero, Int32.zero_or, Int32.add_zero]; done) | with_reducible_and_instances rfl))) (by first | exact hy | exact Or.inr ⟨i, hi, rfl⟩) O28 hf) (sub_s (sub_s (sub_s (sub_n (sub_s (sub_s (sub_s (sub_n sub_nil))))))))
          · skip
            try simp only [bI_0, bI_n0, Classical.not_not, Bool.not_eq_false, Bool.true_and, Bool.and_true, decide_eq_true_eq, decide_eq_false_iff_not, dayC_1, dayC_21, dayC_221, dayC_222, inI_1, inI_2, inI_3, inI_5, inI_11, inI_16] at c81
            refine A_iload 86 dX10_ways_84 rfl rfl ?_
            refine A_if_lt 102 89 dX10_ways_86 (by decide) rfl (fun c86 => ?_) (fun c86 => ?_)
            · skip
              try simp only [bI_0, bI_n0, Classical.not_not, Bool.not_eq_false, Bool.true_and, Bool.and_true, decide_eq_true_eq, decide_eq_false_iff_not, dayC_1, dayC_21, dayC_221, dayC_222, inI_1, inI_2, inI_3, inI_5, inI_11, inI_16] at c86
              have n86 := Int32.not_le.mpr c86
              have cl_9 : b = -9 := neg9 hy c86
              refine A_iload 104 dX10_ways_102 rfl rfl ?_
              refine A_goto 109 dX10_ways_104 (by decide) ?_
              refine A_istore 111 dX10_ways_109 rfl (by decide) (by first | exact (ast_s (ast_s (ast_s (ast_s (ast_1 rfl))))) | exact (ast_s (ast_s (ast_s (ast_s ast_k))))) ?_
              first | refine A_iincN 114 dX10_ways_111 rfl rfl (by decide) (by first | exact (ast_s (ast_s (ast_s (ast_s (ast_s (ast_1 rfl)))))) | exact (ast_s (ast_s (ast_s (ast_s (ast_s ast_k)))))) ?_ | refine A_iinc 114 (1) dX10_ways_111 rfl rfl (by decide) (by decide) (by first | exact (ast_s (ast_s (ast_s (ast_s (ast_s (ast_1 rfl)))))) | exact (ast_s (ast_s (ast_s (ast_s (ast_s ast_k)))))) ?_
              refine A_goto 44 dX10_ways_114 (by decide) ?_
              exact A_weak (ih n0 (Nat.lt_succ_self n0) (i + 1) _ _ h_4 _ (by omega) ((foldN_s (wwF x (nI k_l0)) ((0, -9)) i).trans ((congrArg ((wwF x (nI k_l0)) i) ee).trans (by first | with_reducible rfl | (simp only [c25, n25, cl_l0, c68, c81, c86, n86, cl_9, if_true, if_false, ite_true, ite_false, and_true, true_and, and_false, false_and, and_self, or_true, true_or, or_false, false_or, or_self, not_true_eq_false, not_false_eq_true, decide_true, decide_false, Bool.and_true, Bool.true_and, Bool.and_false, Bool.false_and, Bool.and_self, Bool.or_true, Bool.true_or, Bool.or_false, Bool.false_or, Bool.not_true, Bool.not_false, cond_true, cond_false, bI_t, bI_f, Bool.false_eq_true, Bool.true_eq_false, dayC_1, dayC_21, dayC_221, dayC_222, wwF, wyF, fbF, Int32.and_zero, Int32.zero_or, Int32.add_zero]; done) | (with_reducible first | exact absurd c25 c68 | exact absurd c25 c81 | exact absurd c25 c86 | exact absurd c25 hy | exact absurd c25 hyb | exact absurd c68 c25 | exact absurd c68 c81 | exact absurd c68 c86 | exact absurd c68 hy | exact absurd c68 hyb | exact absurd c81 c25 | exact absurd c81 c68 | exact absurd c81 c86 | exact absurd c81 hy | exact absurd c81 hyb | exact absurd c86 c25 | exact absurd c86 c68 | exact absurd c86 c81 | exact absurd c86 hy | exact absurd c86 hyb | exact absurd hy c25 | exact absurd hy c68 | exact absurd hy c81 | exact absurd hy c86 | exact absurd hy hyb | exact absurd hyb c25 | exact absurd hyb c68 | exact absurd hyb c81 | exact absurd hyb c86 | exact absurd hyb hy | (rw [c25] at c68; cases c68) | (rw [c25] at c81; cases c81) | (rw [c25] at c86; cases c86) | (rw [c68] at c25; cases c25) | (rw [c68] at c81; cases c81) | (rw [c68] at c86; cases c86) | (rw [c81] at c25; cases c25) | (rw [c81] at c68; cases c68) | (rw [c81] at c86; cases c86) | (rw [c86] at c25; cases c25) | (rw [c86] at c68; cases c68) | (rw [c86] at c81; cases c81)) | (simp [*, wwF, wyF, fbF, Int32.and_zero, Int32.zero_or, Int32.add_zero]; done) | with_reducible_and_instances rfl))) (by first | exact hy | exact Or.inr ⟨i, hi, rfl⟩) O28 hf) (sub_s (sub_s (sub_s (sub_n (sub_s (sub_s (sub_s (sub_n sub_nil))))))))
            · skip
              try simp only [bI_0, bI_n0, Classical.not_not, Bool.not_eq_false, Bool.true_and, Bool.and_true, decide_eq_true_eq, decide_eq_false_iff_not, dayC_1, dayC_21, dayC_221, dayC_222, inI_1, inI_2, inI_3, inI_5, inI_11, inI_16] at c86
              have n86 := Int32.not_lt.mp c86
              have cl_9 : ¬ b = -9 := (pos9 hy c86).1
              have hR9 := (pos9 hy c86).2
              refine A_iload 91 dX10_ways_89 rfl rfl ?_
              refine A_callSI 94 (S_X10_onesOf_r X l (by first | assumption | exact R10.nI (by omega) | exact dDone_R (by assumption) _ _ | exact R8.r10 (by assumption) | exact (WOK_pk (by assumption) (by omega)).r10 | exact (WOK_tr (by assumption)).r10 | exact R10_and _ (dDone_R (by assumption) _ _))) dX10_ways_91 rfl kX10_onesOf lk_X10_112 rfl (by decide) rfl (Nat.le_of_ble_eq_true rfl) (fun v_8 h_8 qh_8 => ?_)
              obtain ⟨rfl, rfl⟩ := qh_8
              refine A_iload 96 dX10_ways_94 rfl rfl ?_
              refine A_callSI 99 (S_X10_onesOf_r X l (by first | assumption | exact R10.nI (by omega) | exact dDone_R (by assumption) _ _ | exact R8.r10 (by assumption) | exact (WOK_pk (by assumption) (by omega)).r10 | exact (WOK_tr (by assumption)).r10 | exact R10_and _ (dDone_R (by assumption) _ _))) dX10_ways_96 rfl kX10_onesOf lk_X10_112 rfl (by decide) rfl (Nat.le_of_ble_eq_true rfl) (fun v_9 h_9 qh_9 => ?_)
              obtain ⟨rfl, rfl⟩ := qh_9
              refine A_icmp_ge 107 102 dX10_ways_99 (by decide) rfl (fun c99 => ?_) (fun c99 => ?_)
              · skip
                try simp only [bI_0, bI_n0, Classical.not_not, Bool.not_eq_false, Bool.true_and, Bool.and_true, decide_eq_true_eq, decide_eq_false_iff_not, dayC_1, dayC_21, dayC_221, dayC_222, inI_1, inI_2, inI_3, inI_5, inI_11, inI_16] at c99
                have n99 := c99
                replace c99 := Int32.not_lt.mpr c99
                refine A_iload 109 dX10_ways_107 rfl rfl ?_
                refine A_istore 111 dX10_ways_109 rfl (by decide) (by first | exact (ast_s (ast_s (ast_s (ast_s (ast_1 rfl))))) | exact (ast_s (ast_s (ast_s (ast_s ast_k))))) ?_
                first | refine A_iincN 114 dX10_ways_111 rfl rfl (by decide) (by first | exact (ast_s (ast_s (ast_s (ast_s (ast_s (ast_1 rfl)))))) | exact (ast_s (ast_s (ast_s (ast_s (ast_s ast_k)))))) ?_ | refine A_iinc 114 (1) dX10_ways_111 rfl rfl (by decide) (by decide) (by first | exact (ast_s (ast_s (ast_s (ast_s (ast_s (ast_1 rfl)))))) | exact (ast_s (ast_s (ast_s (ast_s (ast_s ast_k)))))) ?_
                refine A_goto 44 dX10_ways_114 (by decide) ?_
                exact A_weak (ih n0 (Nat.lt_succ_self n0) (i + 1) _ _ h_4 _ (by omega) ((foldN_s (wwF x (nI k_l0)) ((0, -9)) i).trans ((congrArg ((wwF x (nI k_l0)) i) ee).trans (by first | with_reducible rfl | (simp only [c25, n25, cl_l0, c68, c81, c86, n86, cl_9, c99, n99, if_true, if_false, ite_true, ite_false, and_true, true_and, and_false, false_and, and_self, or_true, true_or, or_false, false_or, or_self, not_true_eq_false, not_false_eq_true, decide_true, decide_false, Bool.and_true, Bool.true_and, Bool.and_false, Bool.false_and, Bool.and_self, Bool.or_true, Bool.true_or, Bool.or_false, Bool.false_or, Bool.not_true, Bool.not_false, cond_true, cond_false, bI_t, bI_f, Bool.false_eq_true, Bool.true_eq_false, dayC_1, dayC_21, dayC_221, dayC_222, wwF, wyF, fbF, Int32.and_zero, Int32.zero_or, Int32.add_zero]; done) | (with_reducible first | exact absurd c25 c68 | exact absurd c25 c81 | exact absurd c25 c86 | exact absurd c25 c99 | exact absurd c25 hy | exact absurd c25 hyb | exact absurd c68 c25 | exact absurd c68 c81 | exact absurd c68 c86 | exact absurd c68 c99 | exact absurd c68 hy | exact absurd c68 hyb | exact absurd c81 c25 | exact absurd c81 c68 | exact absurd c81 c86 | exact absurd c81 c99 | exact absurd c81 hy | exact absurd c81 hyb | exact absurd c86 c25 | exact absurd c86 c68 | exact absurd c86 c81 | exact absurd c86 c99 | exact absurd c86 hy | exact absurd c86 hyb | exact absurd c99 c25 | exact absurd c99 c68 | exact absurd c99 c81 | exact absurd c99 c86 | exact absurd c99 hy | exact absurd c99 hyb | exact absurd hy c25 | exact absurd hy c68 | exact absurd hy c81 | exact absurd hy c86 | exact absurd hy c99 | exact absurd hy hyb | exact absurd hyb c25 | exact absurd hyb c68 | exact absurd hyb c81 | exact absurd hyb c86 | exact absurd hyb c99 | exact absurd hyb hy | (rw [c25] at c68; cases c68) | (rw [c25] at c81; cases c81) | (rw [c25] at c86; cases c86) | (rw [c25] at c99; cases c99) | (rw [c68] at c25; cases c25) | (rw [c68] at c81; cases c81) | (rw [c68] at c86; cases c86) | (rw [c68] at c99; cases c99) | (rw [c81] at c25; cases c25) | (rw [c81] at c68; cases c68) | (rw [c81] at c86; cases c86) | (rw [c81] at c99; cases c99) | (rw [c86] at c25; cases c25) | (rw [c86] at c68; cases c68) | (rw [c86] at c81; cases c81) | (rw [c86] at c99; cases c99) | (rw [c99] at c25; cases c25) | (rw [c99] at c68; cases c68) | (rw [c99] at c81; cases c81) | (rw [c99] at c86; cases c86)) | (simp [*, wwF, wyF, fbF, Int32.and_zero, Int32.zero_or, Int32.add_zero]; done) | with_reducible_and_instances rfl))) (by first | exact hy | exact Or.inr ⟨i, hi, rfl⟩) O28 hf) (sub_s (sub_s (sub_s (sub_n (sub_s (sub_s (sub_s (sub_n sub_nil))))))))
              · skip
                try simp only [bI_0, bI_n0, Classical.not_not, Bool.not_eq_false, Bool.true_and, Bool.and_true, decide_eq_true_eq, decide_eq_false_iff_not, dayC_1, dayC_21, dayC_221, dayC_222, inI_1, inI_2, inI_3, inI_5, inI_11, inI_16] at c99
                have n99 := c99
                replace c99 := Int32.not_le.mp c99
                refine A_iload 104 dX10_ways_102 rfl rfl ?_
                refine A_goto 109 dX10_ways_104 (by decide) ?_
                refine A_istore 111 dX10_ways_109 rfl (by decide) (by first | exact (ast_s (ast_s (ast_s (ast_s (ast_1 rfl))))) | exact (ast_s (ast_s (ast_s (ast_s ast_k))))) ?_
                first | refine A_iincN 114 dX10_ways_111 rfl rfl (by decide) (by first | exact (ast_s (ast_s (ast_s (ast_s (ast_s (ast_1 rfl)))))) | exact (ast_s (ast_s (ast_s (ast_s (ast_s ast_k)))))) ?_ | refine A_iinc 114 (1) dX10_ways_111 rfl rfl (by decide) (by decide) (by first | exact (ast_s (ast_s (ast_s (ast_s (ast_s (ast_1 rfl)))))) | exact (ast_s (ast_s (ast_s (ast_s (ast_s ast_k)))))) ?_
                refine A_goto 44 dX10_ways_114 (by decide) ?_
                exact A_weak (ih n0 (Nat.lt_succ_self n0) (i + 1) _ _ h_4 _ (by omega) ((foldN_s (wwF x (nI k_l0)) ((0, -9)) i).trans ((congrArg ((wwF x (nI k_l0)) i) ee).trans (by first | with_reducible rfl | (simp only [c25, n25, cl_l0, c68, c81, c86, n86, cl_9, c99, n99, if_true, if_false, ite_true, ite_false, and_true, true_and, and_false, false_and, and_self, or_true, true_or, or_false, false_or, or_self, not_true_eq_false, not_false_eq_true, decide_true, decide_false, Bool.and_true, Bool.true_and, Bool.and_false, Bool.false_and, Bool.and_self, Bool.or_true, Bool.true_or, Bool.or_false, Bool.false_or, Bool.not_true, Bool.not_false, cond_true, cond_false, bI_t, bI_f, Bool.false_eq_true, Bool.true_eq_false, dayC_1, dayC_21, dayC_221, dayC_222, wwF, wyF, fbF, Int32.and_zero, Int32.zero_or, Int32.add_zero]; done) | (with_reducible first | exact absurd c25 c68 | exact absurd c25 c81 | exact absurd c25 c86 | exact absurd c25 c99 | exact absurd c25 hy | exact absurd c25 hyb | exact absurd c68 c25 | exact absurd c68 c81 | exact absurd c68 c86 | exact absurd c68 c99 | exact absurd c68 hy | exact absurd c68 hyb | exact absurd c81 c25 | exact absurd c81 c68 | exact absurd c81 c86 | exact absurd c81 c99 | exact absurd c81 hy | exact absurd c81 hyb | exact absurd c86 c25 | exact absurd c86 c68 | exact absurd c86 c81 | exact absurd c86 c99 | exact absurd c86 hy | exact absurd c86 hyb | exact absurd c99 c25 | exact absurd c99 c68 | exact absurd c99 c81 | exact absurd c99 c86 | exact absurd c99 hy | exact absurd c99 hyb | exact absurd hy c25 | exact absurd hy c68 | exact absurd hy c81 | exact absurd hy c86 | exact absurd hy c99 | exact absurd hy hyb | exact absurd hyb c25 | exact absurd hyb c68 | exact absurd hyb c81 | exact absurd hyb c86 | exact absurd hyb c99 | exact absurd hyb hy | (rw [c25] at c68; cases c68) | (rw [c25] at c81; cases c81) | (rw [c25] at c86; cases c86) | (rw [c25] at c99; cases c99) | (rw [c68] at c25; cases c25) | (rw [c68] at c81; cases c81) | (rw [c68] at c86; cases c86) | (rw [c68] at c99; cases c99) | (rw [c81] at c25; cases c25) | (rw [c81] at c68; cases c68) | (rw [c81] at c86; cases c86) | (rw [c81] at c99; cases c99) | (rw [c86] at c25; cases c25) | (rw [c86] at c68; cases c68) | (rw [c86] at c81; cases c81) | (rw [c86] at c99; cases c99) | (rw [c99] at c25; cases c25) | (rw [c99] at c68; cases c68) | (rw [c99] at c81; cases c81) | (rw [c99] at c86; cases c86)) | (simp [*, wwF, wyF, fbF, Int32.and_zero, Int32.zero_or, Int32.add_zero]; done) | with_reducible_and_instances rfl))) (by first | exact hy | exact Or.inr ⟨i, hi, rfl⟩) O28 hf) (sub_s (sub_s (sub_s (sub_n (sub_s (sub_s (sub_s (sub_n sub_nil))))))))
    exact A_weak (L44 (256) (0) (_) (_) h_1 (_) (by omega) (rfl) (Or.inl rfl) O28 hf) (sub_s (sub_s (sub_s (sub_n (sub_s (sub_s (sub_s (sub_n sub_nil))))))))
  · skip
    try simp only [bI_0, bI_n0, Classical.not_not, Bool.not_eq_false, Bool.true_and, Bool.and_true, decide_eq_true_eq, decide_eq_false_iff_not, dayC_1, dayC_21, dayC_221, dayC_222, inI_1, inI_2, inI_3, inI_5, inI_11, inI_16] at c25
    have n25 := c25
    replace c25 := Int32.not_le.mp c25
    have hcd : CD (wL01 x l0 v) := cz_neg wL01_cz c25
    refine A_aload_n 29 dX10_ways_28 rfl rfl rfl ?_
    refine A_iload_n 30 dX10_ways_29 rfl rfl rfl ?_
    refine A_callVI 33 (S_X10_refuse_c X l (by first | assumption | decide | omega | exact Ne.symm (by assumption)) (by first | assumption | (unfold CD; decide))) dX10_ways_30 rfl kX10_refuse lk_X10_121 rfl O28 (by decide) rfl (Nat.le_of_ble_eq_true rfl) (fun v_10 h_10 qh_10 => ?_)
    obtain ⟨rfl, n0h_10, eh_10⟩ := qh_10
    replace O28 := n0h_10
    replace hf : ∀ i, i ≠ 28 → h_10 i = h i := fun i g0 => (eh_10 i g0).trans (hf i g0)
    refine A_iret dX10_ways_33 rfl ⟨_, rfl, (by exact rV_n hcd.ne), _, O28, hf⟩
set_option maxHeartbeats 4000000 in
set_option maxRecDepth 100000 in
theorem S_X10_earliest (X : En) (l : Launch) {h : Hp} {x : PW} {c : RC} {z : RZ} (O28 : h 28 = some (rB x (-1) c z)) (hW : WOK x)  {l0 v : Int32} : Ct X l mX10_earliest [aR 28 0, aI l0, aI v] h (QI (fun vr h2 => (rV (wL01 x l0 v) (aEarl x l0 v)) = vr ∧ ∃ (z1 : RZ), h2 (28) = some (rB x (-1) (rS (wL01 x l0 v) c.1, c.2) z1) ∧ ∀ i, i ≠ 28 → h2 i = h i)) := by
  have hx := hW.1
  have hp := hW.2.1
  have h10 := hx.1
  have hf : ∀ i, i ≠ 28 → h i = h i := fun _ _ => rfl
  refine Ct.intro [some (aR 28 0), some (aI l0), some (aI v), none, none, none, none, none, none] (by decide +kernel) rfl (Nat.le_of_ble_eq_true rfl) ?_
  refine A_aload_n 1 dX10_earliest_0 rfl rfl rfl ?_
  refine A_iconst 2 (0) dX10_earliest_1 rfl (by decide) ?_
  refine P_X10_9 5 dX10_earliest_2 rfl fw_X10_78 O28 (fun h_1 nh_1 eh_1 => ?_)
  replace O28 := nh_1
  replace hf : ∀ i, i ≠ 28 → h_1 i = h i := fun i g0 => (eh_1 i g0).trans (hf i g0)
  try dsimp only at O28
  refine A_joinI 23 (fun vj => vj = wL01 x l0 v) (fun j23 => ?_) (fun v23 e23 => ?_)
  · skip
    refine A_aload_n 6 dX10_earliest_5 rfl rfl rfl ?_
    refine A_iload_n 7 dX10_earliest_6 rfl rfl rfl ?_
    refine A_callVI 10 (S_X10_isLaw X l (by first | assumption | decide | omega | exact Ne.symm (by assumption)) (by first | assumption | decide | omega | exact Ne.symm (by assumption))) dX10_earliest_7 rfl kX10_isLaw lk_X10_206 rfl O28 (by decide) rfl (Nat.le_of_ble_eq_true rfl) (fun v_2 h_2 qh_2 => ?_)
    obtain ⟨rfl, rfl⟩ := qh_2
    refine A_if_eq 22 13 dX10_earliest_10 (by decide) rfl (fun c10 => ?_) (fun c10 => ?_)
    · skip
      try simp only [bI_0, bI_n0, Classical.not_not, Bool.not_eq_false, Bool.true_and, Bool.and_true, decide_eq_true_eq, decide_eq_false_iff_not, dayC_1, dayC_21, dayC_221, dayC_222, inI_1, inI_2, inI_3, inI_5, inI_11, inI_16] at c10
      refine A_iconst 23 (-1) dX10_earliest_22 rfl (by decide) ?_
      exact j23 _ (by first | (simp only [c10, if_true, if_false, ite_true, ite_false, and_true, true_and, and_false, false_and, and_self, or_true, true_or, or_false, false_or, or_self, not_true_eq_false, not_false_eq_true, decide_true, decide_false, Bool.and_true, Bool.true_and, Bool.and_false, Bool.false_and, Bool.and_self, Bool.or_true, Bool.true_or, Bool.or_false, Bool.false_or, Bool.not_true, Bool.not_false, cond_true, cond_false, bI_t, bI_f, Bool.false_eq_true, Bool.true_eq_false, dayC_1, dayC_21, dayC_221, dayC_222, w01, wP, wPL, wP01, wL01, wRow, w01R, wAB, wNum, isP, isL, wrB_N, wrB_0, wrB_1]; done) | (simp only [c10, if_true, if_false, ite_true, ite_false, and_true, true_and, and_false, false_and, and_self, or_true, true_or, or_false, false_or, or_self, not_true_eq_false, not_false_eq_true, decide_true, decide_false, Bool.and_true, Bool.true_and, Bool.and_false, Bool.false_and, Bool.and_self, Bool.or_true, Bool.true_or, Bool.or_false, Bool.false_or, Bool.not_true, Bool.not_false, cond_true, cond_false, bI_t, bI_f, Bool.false_eq_true, Bool.true_eq_false, dayC_1, dayC_21, dayC_221, dayC_222, wrN, w01, wP, wPL, wP01, wL01, wRow, w01R, wAB, wNum, isP, isL, wrB_N, wrB_0, wrB_1]; done) | (simp only [c10, if_true, if_false, ite_true, ite_false, and_true, true_and, and_false, false_and, and_self, or_true, true_or, or_false, false_or, or_self, not_true_eq_false, not_false_eq_true, decide_true, decide_false, Bool.and_true, Bool.true_and, Bool.and_false, Bool.false_and, Bool.and_self, Bool.or_true, Bool.true_or, Bool.or_false, Bool.false_or, Bool.not_true, Bool.not_false, cond_true, cond_false, bI_t, bI_f, Bool.false_eq_true, Bool.true_eq_false, dayC_1, dayC_21, dayC_221, dayC_222, wrN, w01, wP, wPL, wP01, wL01, wRow, w01R, wAB, wNum, isP, isL, wrB_N, wrB_0, wrB_1]; rfl))
    · skip
      try simp only [bI_0, bI_n0, Classical.not_not, Bool.not_eq_false, Bool.true_and, Bool.and_true, decide_eq_true_eq, decide_eq_false_iff_not, dayC_1, dayC_21, dayC_221, dayC_222, inI_1, inI_2, inI_3, inI_5, inI_11, inI_16] at c10
      refine A_iconst 14 (0) dX10_earliest_13 rfl (by decide) ?_
      refine A_iload_n 15 dX10_earliest_14 rfl rfl rfl ?_
      refine A_iconst 16 (1) dX10_earliest_15 rfl (by decide) ?_
      refine A_callSI 19 (S_X10_wrongBit X l) dX10_earliest_16 rfl kX10_wrongBit lk_X10_225 rfl (by decide) rfl (Nat.le_of_ble_eq_true rfl) (fun v_3 h_3 qh_3 => ?_)
      obtain ⟨rfl, rfl⟩ := qh_3
      refine A_goto 23 dX10_earliest_19 (by decide) ?_
      exact j23 _ (by first | (simp only [c10, if_true, if_false, ite_true, ite_false, and_true, true_and, and_false, false_and, and_self, or_true, true_or, or_false, false_or, or_self, not_true_eq_false, not_false_eq_true, decide_true, decide_false, Bool.and_true, Bool.true_and, Bool.and_false, Bool.false_and, Bool.and_self, Bool.or_true, Bool.true_or, Bool.or_false, Bool.false_or, Bool.not_true, Bool.not_false, cond_true, cond_false, bI_t, bI_f, Bool.false_eq_true, Bool.true_eq_false, dayC_1, dayC_21, dayC_221, dayC_222, w01, wP, wPL, wP01, wL01, wRow, w01R, wAB, wNum, isP, isL, wrB_N, wrB_0, wrB_1]; done) | (simp only [c10, if_true, if_false, ite_true, ite_false, and_true, true_and, and_false, false_and, and_self, or_true, true_or, or_false, false_or, or_self, not_true_eq_false, not_false_eq_true, decide_true, decide_false, Bool.and_true, Bool.true_and, Bool.and_false, Bool.false_and, Bool.and_self, Bool.or_true, Bool.true_or, Bool.or_false, Bool.false_or, Bool.not_true, Bool.not_false, cond_true, cond_false, bI_t, bI_f, Bool.false_eq_true, Bool.true_eq_false, dayC_1, dayC_21, dayC_221, dayC_222, wrN, w01, wP, wPL, wP01, wL01, wRow, w01R, wAB, wNum, isP, isL, wrB_N, wrB_0, wrB_1]; done) | (simp only [c10, if_true, if_false, ite_true, ite_false, and_true, true_and, and_false, false_and, and_self, or_true, true_or, or_false, false_or, or_self, not_true_eq_false, not_false_eq_true, decide_true, decide_false, Bool.and_true, Bool.true_and, Bool.and_false, Bool.false_and, Bool.and_self, Bool.or_true, Bool.true_or, Bool.or_false, Bool.false_or, Bool.not_true, Bool.not_false, cond_true, cond_false, bI_t, bI_f, Bool.false_eq_true, Bool.true_eq_false, dayC_1, dayC_21, dayC_221, dayC_222, wrN, w01, wP, wPL, wP01, wL01, wRow, w01R, wAB, wNum, isP, isL, wrB_N, wrB_0, wrB_1]; rfl))
  subst e23
  refine A_istore_n 24 dX10_earliest_23 rfl rfl (by decide) (by first | exact (ast_s (ast_s (ast_1 rfl))) | exact (ast_s (ast_s ast_k))) ?_
  refine A_iload_n 25 dX10_earliest_24 rfl rfl rfl ?_
  refine A_if_ge 34 28 dX10_earliest_25 (by decide) rfl (fun c25 => ?_) (fun c25 => ?_)
  · skip
    try simp only [bI_0, bI_n0, Classical.not_not, Bool.not_eq_false, Bool.true_and, Bool.and_true, decide_eq_true_eq, decide_eq_false_iff_not, dayC_1, dayC_21, dayC_221, dayC_222, inI_1, inI_2, inI_3, inI_5, inI_11, inI_16] at c25
    have n25 := c25
    replace c25 := Int32.not_lt.mpr c25
    have hw0 : wL01 x l0 v = 0 := cz_pos wL01_cz c25
    obtain ⟨f1, f2⟩ := wL01_0 hw0
    obtain ⟨k_l0, rfl, hk_l0⟩ := inN_ex f1 (by omega)
    have cl_l0 : (nI k_l0).toNatClampNeg = k_l0 := nI_clamp (by omega)
    have hk6_l0 : k_l0 < 10 := by omega
    refine A_bipush 36 (-9) dX10_earliest_34 rfl (by decide) ?_
    refine A_istore 38 dX10_earliest_36 rfl (by decide) (by first | exact (ast_s (ast_s (ast_s (ast_1 rfl)))) | exact (ast_s (ast_s (ast_s ast_k)))) ?_
    refine A_bipush 40 (-9) dX10_earliest_38 rfl (by decide) ?_
    refine A_istore 42 dX10_earliest_40 rfl (by decide) (by first | exact (ast_s (ast_s (ast_s (ast_s (ast_1 rfl))))) | exact (ast_s (ast_s (ast_s (ast_s ast_k))))) ?_
    refine A_iconst 43 (0) dX10_earliest_42 rfl (by decide) ?_
    refine A_istore 45 dX10_earliest_43 rfl (by decide) (by first | exact (ast_s (ast_s (ast_s (ast_s (ast_s (ast_1 rfl)))))) | exact (ast_s (ast_s (ast_s (ast_s (ast_s ast_k)))))) ?_
    have L45 : ∀ (nq i : Nat) (f b : Int32) (g45 : Hp) (z2 : RZ), (nq + i = 256) → (foldN (eaF x (nI k_l0)) ((-9, -9)) i = (f, b)) → (f = -9 ∨ ∃ k, k < 12 ∧ f = nI k) → (g45 28 = some (rB x (-1) c z2)) → (∀ i, i ≠ 28 → g45 i = h i) → Av X l mX10_earliest 45 [some (aR 28 0), some (aI (nI (k_l0))), some (aI (v)), none, some (aI (f)), some (aI (b)), some (aI (nI (i))), none, none] [] g45 (QI (fun vr h2 => (rV (wL01 x (nI k_l0) v) (aEarl x (nI k_l0) v)) = vr ∧ ∃ (z1 : RZ), h2 (28) = some (rB x (-1) (rS (wL01 x (nI k_l0) v) c.1, c.2) z1) ∧ ∀ i, i ≠ 28 → h2 i = h i)) := by
      intro nq
      induction nq using Nat.strongRecOn with
      | _ nq ih =>
      intro i f b g45 z2 en ee hy O28 hf
      refine A_iload 47 dX10_earliest_45 rfl rfl ?_
      refine A_sipush 50 (256) dX10_earliest_47 rfl (by decide) ?_
      refine A_icmp_ge 140 53 dX10_earliest_50 (by decide) rfl (fun c50 => ?_) (fun c50 => ?_)
      · skip
        obtain rfl := (up_ge_T (N := 256) c50 rfl (by omega) (by omega)).symm
        refine A_iload_n 141 dX10_earliest_140 rfl rfl rfl ?_
        refine A_if_ne 149 144 dX10_earliest_141 (by decide) rfl (fun c141 => ?_) (fun c141 => ?_)
        · skip
          try simp only [bI_0, bI_n0, Classical.not_not, Bool.not_eq_false, Bool.true_and, Bool.and_true, decide_eq_true_eq, decide_eq_false_iff_not, dayC_1, dayC_21, dayC_221, dayC_222, inI_1, inI_2, inI_3, inI_5, inI_11, inI_16] at c141
          refine A_iload 151 dX10_earliest_149 rfl rfl ?_
          refine A_iret dX10_earliest_151 rfl ⟨_, rfl, (by rw [hw0, rV_0]; unfold aEarl; rw [ee]; first | rw [if_pos c141] | rw [if_neg c141]), _, (by rw [hw0, rS_0]; exact O28), hf⟩
        · skip
          try simp only [bI_0, bI_n0, Classical.not_not, Bool.not_eq_false, Bool.true_and, Bool.and_true, decide_eq_true_eq, decide_eq_false_iff_not, dayC_1, dayC_21, dayC_221, dayC_222, inI_1, inI_2, inI_3, inI_5, inI_11, inI_16] at c141
          refine A_iload 146 dX10_earliest_144 rfl rfl ?_
          refine A_goto 151 dX10_earliest_146 (by decide) ?_
          refine A_iret dX10_earliest_151 rfl ⟨_, rfl, (by rw [hw0, rV_0]; unfold aEarl; rw [ee]; first | rw [if_pos c141] | rw [if_neg c141]), _, (by rw [hw0, rS_0]; exact O28), hf⟩
      · skip
        have hi := up_ge_F (N := 256) c50 rfl (by omega) (by omega)
        obtain ⟨n0, rfl⟩ : ∃ q, nq = q + 1 := ⟨nq - 1, by omega⟩
        refine A_aload_n 54 dX10_earliest_53 rfl rfl rfl ?_
        refine A_iload 56 dX10_earliest_54 rfl rfl ?_
        refine A_callVI 59 (S_X10_goDay_n X l (by first | assumption | decide | omega | exact Ne.symm (by assumption)) (by first | assumption | decide | omega | exact Ne.symm (by assumption))) dX10_earliest_56 rfl kX10_goDay lk_X10_108 rfl O28 (by decide) rfl (Nat.le_of_ble_eq_true rfl) (fun v_4 h_4 qh_4 => ?_)
        obtain ⟨rfl, n0h_4, eh_4⟩ := qh_4
        replace O28 := n0h_4
        replace hf : ∀ i, i ≠ 28 → h_4 i = h i := fun i g0 => (eh_4 i g0).trans (hf i g0)
        refine A_pop 60 dX10_earliest_59 rfl rfl ?_
        refine A_iconst 61 (0) dX10_earliest_60 rfl (by decide) ?_
        refine A_istore 63 dX10_earliest_61 rfl (by decide) (by first | exact (ast_s (ast_s (ast_s (ast_s (ast_s (ast_s (ast_1 rfl))))))) | exact (ast_s (ast_s (ast_s (ast_s (ast_s (ast_s ast_k))))))) ?_
        have L63 : ∀ (nqb j : Nat) (f2 b2 : Int32) , (nqb + j = 12) → (foldN (ehF (dLaw x 0 (nI i)) (nI k_l0) i) ((f, b)) j = (f2, b2)) → (f2 = -9 ∨ ∃ k, k < 12 ∧ f2 = nI k) → Av X l mX10_earliest 63 [some (aR 28 0), some (aI (nI (k_l0))), some (aI (v)), none, some (aI (f2)), some (aI (b2)), some (aI (nI (i))), some (aI (nI (j))), none] [] h_4 (QI (fun vr h2 => (rV (wL01 x (nI k_l0) v) (aEarl x (nI k_l0) v)) = vr ∧ ∃ (z1 : RZ), h2 (28) = some (rB x (-1) (rS (wL01 x (nI k_l0) v) c.1, c.2) z1) ∧ ∀ i, i ≠ 28 → h2 i = h i)) := by
          intro nqb
          induction nqb using Nat.strongRecOn with
          | _ nqb ihb =>
          intro j f2 b2 enb eeb hyb
          refine A_iload 65 dX10_earliest_63 rfl rfl ?_
          refine A_bipush 67 (12) dX10_earliest_65 rfl (by decide) ?_
          refine A_icmp_ge 134 70 dX10_earliest_67 (by decide) rfl (fun c67 => ?_) (fun c67 => ?_)
          · skip
            obtain rfl := (up_ge_T (N := 12) c67 rfl (by omega) (by omega)).symm
            first | refine A_iincN 137 dX10_earliest_134 rfl rfl (by decide) (by first | exact (ast_s (ast_s (ast_s (ast_s (ast_s (ast_1 rfl)))))) | exact (ast_s (ast_s (ast_s (ast_s (ast_s ast_k)))))) ?_ | refine A_iinc 137 (1) dX10_earliest_134 rfl rfl (by decide) (by decide) (by first | exact (ast_s (ast_s (ast_s (ast_s (ast_s (ast_1 rfl)))))) | exact (ast_s (ast_s (ast_s (ast_s (ast_s ast_k)))))) ?_
            refine A_goto 45 dX10_earliest_137 (by decide) ?_
            exact A_weak (ih n0 (Nat.lt_succ_self n0) (i + 1) _ _ h_4 _ (by omega) ((foldN_s (eaF x (nI k_l0)) ((-9, -9)) i).trans ((congrArg ((eaF x (nI k_l0)) i) ee).trans (by exact (eh_eq (t := (f, b)) hy).symm.trans eeb))) (by first | exact hy | exact hyb | exact Or.inr ⟨_, by omega, rfl⟩) O28 hf) (sub_s (sub_s (sub_s (sub_n (sub_s (sub_s (sub_s (sub_n (sub_n sub_nil)))))))))
          · skip
            have hib := up_ge_F (N := 12) c67 rfl (by omega) (by omega)
            obtain ⟨n0b, rfl⟩ : ∃ q, nqb = q + 1 := ⟨nqb - 1, by omega⟩
            refine A_aload_n 71 dX10_earliest_70 rfl rfl rfl ?_
            refine A_getfield 74 dX10_earliest_71 rfl f_X10_32 O28 rfl ?_
            refine A_iload 76 dX10_earliest_74 rfl rfl ?_
            refine A_iaload 77 dX10_earliest_76 rfl O28 rfl (by first | assumption | exact ix_nI (by omega) (by decide) | exact ix_lit _ rfl (by omega) (by decide) | exact ix_lit _ rfl (by decide) (by decide)) ?_
            try dsimp only
            refine A_iload_n 78 dX10_earliest_77 rfl rfl rfl ?_
            refine A_icmp_ne 97 81 dX10_earliest_78 (by decide) rfl (fun c78 => ?_) (fun c78 => ?_)
            · skip
              try simp only [bI_0, bI_n0, Classical.not_not, Bool.not_eq_false, Bool.true_and, Bool.and_true, decide_eq_true_eq, decide_eq_false_iff_not, dayC_1, dayC_21, dayC_221, dayC_222, inI_1, inI_2, inI_3, inI_5, inI_11, inI_16] at c78
              refine A_iconst 98 (0) dX10_earliest_97 rfl (by decide) ?_
              refine A_istore 100 dX10_earliest_98 rfl (by decide) (by first | exact (ast_s (ast_s (ast_s (ast_s (ast_s (ast_s (ast_s (ast_1 rfl)))))))) | exact (ast_s (ast_s (ast_s (ast_s (ast_s (ast_s (ast_s ast_k)))))))) ?_
              refine A_iload 102 dX10_earliest_100 rfl rfl ?_
              refine A_if_eq 110 105 dX10_earliest_102 (by decide) rfl (fun c102 => ?_) (fun c102 => ?_)
              · skip
                refine A_iload 112 dX10_earliest_110 rfl rfl ?_
                refine A_istore 114 dX10_earliest_112 rfl (by decide) (by first | exact (ast_s (ast_s (ast_s (ast_s (ast_1 rfl))))) | exact (ast_s (ast_s (ast_s (ast_s ast_k))))) ?_
                refine A_iload 116 dX10_earliest_114 rfl rfl ?_
                refine A_if_eq 124 119 dX10_earliest_116 (by decide) rfl (fun c116 => ?_) (fun c116 => ?_)
                · skip
                  refine A_iload 126 dX10_earliest_124 rfl rfl ?_
                  refine A_istore 128 dX10_earliest_126 rfl (by decide) (by first | exact (ast_s (ast_s (ast_s (ast_1 rfl)))) | exact (ast_s (ast_s (ast_s ast_k)))) ?_
                  first | refine A_iincN 131 dX10_earliest_128 rfl rfl (by decide) (by first | exact (ast_s (ast_s (ast_s (ast_s (ast_s (ast_s (ast_1 rfl))))))) | exact (ast_s (ast_s (ast_s (ast_s (ast_s (ast_s ast_k))))))) ?_ | refine A_iinc 131 (1) dX10_earliest_128 rfl rfl (by decide) (by decide) (by first | exact (ast_s (ast_s (ast_s (ast_s (ast_s (ast_s (ast_1 rfl))))))) | exact (ast_s (ast_s (ast_s (ast_s (ast_s (ast_s ast_k))))))) ?_
                  refine A_goto 63 dX10_earliest_131 (by decide) ?_
                  exact A_weak (ihb n0b (Nat.lt_succ_self n0b) (j + 1) _ _  (by omega) ((foldN_s (ehF (dLaw x 0 (nI i)) (nI k_l0) i) ((f, b)) j).trans ((congrArg ((ehF (dLaw x 0 (nI i)) (nI k_l0) i) j) eeb).trans (by first | with_reducible rfl | (simp only [c25, n25, cl_l0, c78, if_true, if_false, ite_true, ite_false, and_true, true_and, and_false, false_and, and_self, or_true, true_or, or_false, false_or, or_self, not_true_eq_false, not_false_eq_true, decide_true, decide_false, Bool.and_true, Bool.true_and, Bool.and_false, Bool.false_and, Bool.and_self, Bool.or_true, Bool.true_or, Bool.or_false, Bool.false_or, Bool.not_true, Bool.not_false, cond_true, cond_false, bI_t, bI_f, Bool.false_eq_true, Bool.true_eq_false, dayC_1, dayC_21, dayC_221, dayC_222, ehF]; done) | (with_reducible first | exact absurd c25 c78 | exact absurd c25 hy | exact absurd c25 hyb | exact absurd c78 c25 | exact absurd c78 hy | exact absurd c78 hyb | exact absurd hy c25 | exact absurd hy c78 | exact absurd hy hyb | exact absurd hyb c25 | exact absurd hyb c78 | exact absurd hyb hy | (rw [c25] at c78; cases c78) | (rw [c78] at c25; cases c25)) | (simp [*, ehF]; done) | with_reducible_and_instances rfl))) (by first | exact hyb | exact Or.inr ⟨j, by omega, rfl⟩) ) (sub_s (sub_s (sub_s (sub_n (sub_s (sub_s (sub_s (sub_s (sub_n sub_nil)))))))))
                · skip
                  exact absurd c116 (by decide)
              · skip
                exact absurd c102 (by decide)
            · skip
              try simp only [bI_0, bI_n0, Classical.not_not, Bool.not_eq_false, Bool.true_and, Bool.and_true, decide_eq_true_eq, decide_eq_false_iff_not, dayC_1, dayC_21, dayC_221, dayC_222, inI_1, inI_2, inI_3, inI_5, inI_11, inI_16] at c78
              refine A_iload 83 dX10_earliest_81 rfl rfl ?_
              refine A_if_lt 93 86 dX10_earliest_83 (by decide) rfl (fun c83 => ?_) (fun c83 => ?_)
              · skip
                try simp only [bI_0, bI_n0, Classical.not_not, Bool.not_eq_false, Bool.true_and, Bool.and_true, decide_eq_true_eq, decide_eq_false_iff_not, dayC_1, dayC_21, dayC_221, dayC_222, inI_1, inI_2, inI_3, inI_5, inI_11, inI_16] at c83
                have n83 := Int32.not_le.mpr c83
                refine A_iconst 94 (1) dX10_earliest_93 rfl (by decide) ?_
                refine A_goto 98 dX10_earliest_94 (by decide) ?_
                refine A_istore 100 dX10_earliest_98 rfl (by decide) (by first | exact (ast_s (ast_s (ast_s (ast_s (ast_s (ast_s (ast_s (ast_1 rfl)))))))) | exact (ast_s (ast_s (ast_s (ast_s (ast_s (ast_s (ast_s ast_k)))))))) ?_
                refine A_iload 102 dX10_earliest_100 rfl rfl ?_
                refine A_if_eq 110 105 dX10_earliest_102 (by decide) rfl (fun c102 => ?_) (fun c102 => ?_)
                · skip
                  exact absurd c102 (by decide)
                · skip
                  refine A_iload 107 dX10_earliest_105 rfl rfl ?_
                  refine A_goto 112 dX10_earliest_107 (by decide) ?_
                  refine A_istore 114 dX10_earliest_112 rfl (by decide) (by first | exact (ast_s (ast_s (ast_s (ast_s (ast_1 rfl))))) | exact (ast_s (ast_s (ast_s (ast_s ast_k))))) ?_
                  refine A_iload 116 dX10_earliest_114 rfl rfl ?_
                  refine A_if_eq 124 119 dX10_earliest_116 (by decide) rfl (fun c116 => ?_) (fun c116 => ?_)
                  · skip
                    exact absurd c116 (by decide)
                  · skip
                    refine A_iload 121 dX10_earliest_119 rfl rfl ?_
                    refine A_goto 126 dX10_earliest_121 (by decide) ?_
                    refine A_istore 128 dX10_earliest_126 rfl (by decide) (by first | exact (ast_s (ast_s (ast_s (ast_1 rfl)))) | exact (ast_s (ast_s (ast_s ast_k)))) ?_
                    first | refine A_iincN 131 dX10_earliest_128 rfl rfl (by decide) (by first | exact (ast_s (ast_s (ast_s (ast_s (ast_s (ast_s (ast_1 rfl))))))) | exact (ast_s (ast_s (ast_s (ast_s (ast_s (ast_s ast_k))))))) ?_ | refine A_iinc 131 (1) dX10_earliest_128 rfl rfl (by decide) (by decide) (by first | exact (ast_s (ast_s (ast_s (ast_s (ast_s (ast_s (ast_1 rfl))))))) | exact (ast_s (ast_s (ast_s (ast_s (ast_s (ast_s ast_k))))))) ?_
                    refine A_goto 63 dX10_earliest_131 (by decide) ?_
                    exact A_weak (ihb n0b (Nat.lt_succ_self n0b) (j + 1) _ _  (by omega) ((foldN_s (ehF (dLaw x 0 (nI i)) (nI k_l0) i) ((f, b)) j).trans ((congrArg ((ehF (dLaw x 0 (nI i)) (nI k_l0) i) j) eeb).trans (by first | with_reducible rfl | (simp only [c25, n25, cl_l0, c78, c83, n83, if_true, if_false, ite_true, ite_false, and_true, true_and, and_false, false_and, and_self, or_true, true_or, or_false, false_or, or_self, not_true_eq_false, not_false_eq_true, decide_true, decide_false, Bool.and_true, Bool.true_and, Bool.and_false, Bool.false_and, Bool.and_self, Bool.or_true, Bool.true_or, Bool.or_false, Bool.false_or, Bool.not_true, Bool.not_false, cond_true, cond_false, bI_t, bI_f, Bool.false_eq_true, Bool.true_eq_false, dayC_1, dayC_21, dayC_221, dayC_222, ehF]; done) | (simp only [c25, n25, cl_l0, eq_true c78, c83, n83, if_true, if_false, ite_true, ite_false, and_true, true_and, and_false, false_and, and_self, or_true, true_or, or_false, false_or, or_self, not_true_eq_false, not_false_eq_true, decide_true, decide_false, Bool.and_true, Bool.true_and, Bool.and_false, Bool.false_and, Bool.and_self, Bool.or_true, Bool.true_or, Bool.or_false, Bool.false_or, Bool.not_true, Bool.not_false, cond_true, cond_false, bI_t, bI_f, Bool.false_eq_true, Bool.true_eq_false, dayC_1, dayC_21, dayC_221, dayC_222, ehF]; done) | (with_reducible first | exact absurd c25 c78 | exact absurd c25 c83 | exact absurd c25 hy | exact absurd c25 hyb | exact absurd c78 c25 | exact absurd c78 c83 | exact absurd c78 hy | exact absurd c78 hyb | exact absurd c83 c25 | exact absurd c83 c78 | exact absurd c83 hy | exact absurd c83 hyb | exact absurd hy c25 | exact absurd hy c78 | exact absurd hy c83 | exact absurd hy hyb | exact absurd hyb c25 | exact absurd hyb c78 | exact absurd hyb c83 | exact absurd hyb hy | (rw [c25] at c78; cases c78) | (rw [c25] at c83; cases c83) | (rw [c78] at c25; cases c25) | (rw [c78] at c83; cases c83) | (rw [c83] at c25; cases c25) | (rw [c83] at c78; cases c78)) | (simp [*, ehF]; done) | with_reducible_and_instances rfl))) (by first | exact hyb | exact Or.inr ⟨j, by omega, rfl⟩) ) (sub_s (sub_s (sub_s (sub_n (sub_s (sub_s (sub_s (sub_s (sub_n sub_nil)))))))))
              · skip
                try simp only [bI_0, bI_n0, Classical.not_not, Bool.not_eq_false, Bool.true_and, Bool.and_true, decide_eq_true_eq, decide_eq_false_iff_not, dayC_1, dayC_21, dayC_221, dayC_222, inI_1, inI_2, inI_3, inI_5, inI_11, inI_16] at c83
                have n83 := Int32.not_lt.mp c83
                refine A_iload 88 dX10_earliest_86 rfl rfl ?_
                refine A_iload 90 dX10_earliest_88 rfl rfl ?_
                refine A_icmp_ge 97 93 dX10_earliest_90 (by decide) rfl (fun c90 => ?_) (fun c90 => ?_)
                · skip
                  try simp only [bI_0, bI_n0, Classical.not_not, Bool.not_eq_false, Bool.true_and, Bool.and_true, decide_eq_true_eq, decide_eq_false_iff_not, dayC_1, dayC_21, dayC_221, dayC_222, inI_1, inI_2, inI_3, inI_5, inI_11, inI_16] at c90
                  have n90 := c90
                  replace c90 := Int32.not_lt.mpr c90
                  refine A_iconst 98 (0) dX10_earliest_97 rfl (by decide) ?_
                  refine A_istore 100 dX10_earliest_98 rfl (by decide) (by first | exact (ast_s (ast_s (ast_s (ast_s (ast_s (ast_s (ast_s (ast_1 rfl)))))))) | exact (ast_s (ast_s (ast_s (ast_s (ast_s (ast_s (ast_s ast_k)))))))) ?_
                  refine A_iload 102 dX10_earliest_100 rfl rfl ?_
                  refine A_if_eq 110 105 dX10_earliest_102 (by decide) rfl (fun c102 => ?_) (fun c102 => ?_)
                  · skip
                    refine A_iload 112 dX10_earliest_110 rfl rfl ?_
                    refine A_istore 114 dX10_earliest_112 rfl (by decide) (by first | exact (ast_s (ast_s (ast_s (ast_s (ast_1 rfl))))) | exact (ast_s (ast_s (ast_s (ast_s ast_k))))) ?_
                    refine A_iload 116 dX10_earliest_114 rfl rfl ?_
                    refine A_if_eq 124 119 dX10_earliest_116 (by decide) rfl (fun c116 => ?_) (fun c116 => ?_)
                    · skip
                      refine A_iload 126 dX10_earliest_124 rfl rfl ?_
                      refine A_istore 128 dX10_earliest_126 rfl (by decide) (by first | exact (ast_s (ast_s (ast_s (ast_1 rfl)))) | exact (ast_s (ast_s (ast_s ast_k)))) ?_
                      first | refine A_iincN 131 dX10_earliest_128 rfl rfl (by decide) (by first | exact (ast_s (ast_s (ast_s (ast_s (ast_s (ast_s (ast_1 rfl))))))) | exact (ast_s (ast_s (ast_s (ast_s (ast_s (ast_s ast_k))))))) ?_ | refine A_iinc 131 (1) dX10_earliest_128 rfl rfl (by decide) (by decide) (by first | exact (ast_s (ast_s (ast_s (ast_s (ast_s (ast_s (ast_1 rfl))))))) | exact (ast_s (ast_s (ast_s (ast_s (ast_s (ast_s ast_k))))))) ?_
                      refine A_goto 63 dX10_earliest_131 (by decide) ?_
                      exact A_weak (ihb n0b (Nat.lt_succ_self n0b) (j + 1) _ _  (by omega) ((foldN_s (ehF (dLaw x 0 (nI i)) (nI k_l0) i) ((f, b)) j).trans ((congrArg ((ehF (dLaw x 0 (nI i)) (nI k_l0) i) j) eeb).trans (by first | with_reducible rfl | (simp only [c25, n25, cl_l0, c78, c83, n83, c90, n90, if_true, if_false, ite_true, ite_false, and_true, true_and, and_false, false_and, and_self, or_true, true_or, or_false, false_or, or_self, not_true_eq_false, not_false_eq_true, decide_true, decide_false, Bool.and_true, Bool.true_and, Bool.and_false, Bool.false_and, Bool.and_self, Bool.or_true, Bool.true_or, Bool.or_false, Bool.false_or, Bool.not_true, Bool.not_false, cond_true, cond_false, bI_t, bI_f, Bool.false_eq_true, Bool.true_eq_false, dayC_1, dayC_21, dayC_221, dayC_222, ehF]; done) | (simp only [c25, n25, cl_l0, eq_true c78, c83, n83, c90, n90, if_true, if_false, ite_true, ite_false, and_true, true_and, and_false, false_and, and_self, or_true, true_or, or_false, false_or, or_self, not_true_eq_false, not_false_eq_true, decide_true, decide_false, Bool.and_true, Bool.true_and, Bool.and_false, Bool.false_and, Bool.and_self, Bool.or_true, Bool.true_or, Bool.or_false, Bool.false_or, Bool.not_true, Bool.not_false, cond_true, cond_false, bI_t, bI_f, Bool.false_eq_true, Bool.true_eq_false, dayC_1, dayC_21, dayC_221, dayC_222, ehF]; done) | (with_reducible first | exact absurd c25 c78 | exact absurd c25 c83 | exact absurd c25 c90 | exact absurd c25 hy | exact absurd c25 hyb | exact absurd c78 c25 | exact absurd c78 c83 | exact absurd c78 c90 | exact absurd c78 hy | exact absurd c78 hyb | exact absurd c83 c25 | exact absurd c83 c78 | exact absurd c83 c90 | exact absurd c83 hy | exact absurd c83 hyb | exact absurd c90 c25 | exact absurd c90 c78 | exact absurd c90 c83 | exact absurd c90 hy | exact absurd c90 hyb | exact absurd hy c25 | exact absurd hy c78 | exact absurd hy c83 | exact absurd hy c90 | exact absurd hy hyb | exact absurd hyb c25 | exact absurd hyb c78 | exact absurd hyb c83 | exact absurd hyb c90 | exact absurd hyb hy | (rw [c25] at c78; cases c78) | (rw [c25] at c83; cases c83) | (rw [c25] at c90; cases c90) | (rw [c78] at c25; cases c25) | (rw [c78] at c83; cases c83) | (rw [c78] at c90; cases c90) | (rw [c83] at c25; cases c25) | (rw [c83] at c78; cases c78) | (rw [c83] at c90; cases c90) | (rw [c90] at c25; cases c25) | (rw [c90] at c78; cases c78) | (rw [c90] at c83; cases c83)) | (simp [*, ehF]; done) | with_reducible_and_instances rfl))) (by first | exact hyb | exact Or.inr ⟨j, by omega, rfl⟩) ) (sub_s (sub_s (sub_s (sub_n (sub_s (sub_s (sub_s (sub_s (sub_n sub_nil)))))))))
                    · skip
                      exact absurd c116 (by decide)
                  · skip
                    exact absurd c102 (by decide)
                · skip
                  try simp only [bI_0, bI_n0, Classical.not_not, Bool.not_eq_false, Bool.true_and, Bool.and_true, decide_eq_true_eq, decide_eq_false_iff_not, dayC_1, dayC_21, dayC_221, dayC_222, inI_1, inI_2, inI_3, inI_5, inI_11, inI_16] at c90
                  have n90 := c90
                  replace c90 := Int32.not_le.mp c90
                  refine A_iconst 94 (1) dX10_earliest_93 rfl (by decide) ?_
                  refine A_goto 98 dX10_earliest_94 (by decide) ?_
                  refine A_istore 100 dX10_earliest_98 rfl (by decide) (by first | exact (ast_s (ast_s (ast_s (ast_s (ast_s (ast_s (ast_s (ast_1 rfl)))))))) | exact (ast_s (ast_s (ast_s (ast_s (ast_s (ast_s (ast_s ast_k)))))))) ?_
                  refine A_iload 102 dX10_earliest_100 rfl rfl ?_
                  refine A_if_eq 110 105 dX10_earliest_102 (by decide) rfl (fun c102 => ?_) (fun c102 => ?_)
                  · skip
                    exact absurd c102 (by decide)
                  · skip
                    refine A_iload 107 dX10_earliest_105 rfl rfl ?_
                    refine A_goto 112 dX10_earliest_107 (by decide) ?_
                    refine A_istore 114 dX10_earliest_112 rfl (by decide) (by first | exact (ast_s (ast_s (ast_s (ast_s (ast_1 rfl))))) | exact (ast_s (ast_s (ast_s (ast_s ast_k))))) ?_
                    refine A_iload 116 dX10_earliest_114 rfl rfl ?_
                    refine A_if_eq 124 119 dX10_earliest_116 (by decide) rfl (fun c116 => ?_) (fun c116 => ?_)
                    · skip
                      exact absurd c116 (by decide)
                    · skip
                      refine A_iload 121 dX10_earliest_119 rfl rfl ?_
                      refine A_goto 126 dX10_earliest_121 (by decide) ?_
                      refine A_istore 128 dX10_earliest_126 rfl (by decide) (by first | exact (ast_s (ast_s (ast_s (ast_1 rfl)))) | exact (ast_s (ast_s (ast_s ast_k)))) ?_
                      first | refine A_iincN 131 dX10_earliest_128 rfl rfl (by decide) (by first | exact (ast_s (ast_s (ast_s (ast_s (ast_s (ast_s (ast_1 rfl))))))) | exact (ast_s (ast_s (ast_s (ast_s (ast_s (ast_s ast_k))))))) ?_ | refine A_iinc 131 (1) dX10_earliest_128 rfl rfl (by decide) (by decide) (by first | exact (ast_s (ast_s (ast_s (ast_s (ast_s (ast_s (ast_1 rfl))))))) | exact (ast_s (ast_s (ast_s (ast_s (ast_s (ast_s ast_k))))))) ?_
                      refine A_goto 63 dX10_earliest_131 (by decide) ?_
                      exact A_weak (ihb n0b (Nat.lt_succ_self n0b) (j + 1) _ _  (by omega) ((foldN_s (ehF (dLaw x 0 (nI i)) (nI k_l0) i) ((f, b)) j).trans ((congrArg ((ehF (dLaw x 0 (nI i)) (nI k_l0) i) j) eeb).trans (by first | with_reducible rfl | (simp only [c25, n25, cl_l0, c78, c83, n83, c90, n90, if_true, if_false, ite_true, ite_false, and_true, true_and, and_false, false_and, and_self, or_true, true_or, or_false, false_or, or_self, not_true_eq_false, not_false_eq_true, decide_true, decide_false, Bool.and_true, Bool.true_and, Bool.and_false, Bool.false_and, Bool.and_self, Bool.or_true, Bool.true_or, Bool.or_false, Bool.false_or, Bool.not_true, Bool.not_false, cond_true, cond_false, bI_t, bI_f, Bool.false_eq_true, Bool.true_eq_false, dayC_1, dayC_21, dayC_221, dayC_222, ehF]; done) | (simp only [c25, n25, cl_l0, eq_true c78, c83, n83, c90, n90, if_true, if_false, ite_true, ite_false, and_true, true_and, and_false, false_and, and_self, or_true, true_or, or_false, false_or, or_self, not_true_eq_false, not_false_eq_true, decide_true, decide_false, Bool.and_true, Bool.true_and, Bool.and_false, Bool.false_and, Bool.and_self, Bool.or_true, Bool.true_or, Bool.or_false, Bool.false_or, Bool.not_true, Bool.not_false, cond_true, cond_false, bI_t, bI_f, Bool.false_eq_true, Bool.true_eq_false, dayC_1, dayC_21, dayC_221, dayC_222, ehF]; done) | (with_reducible first | exact absurd c25 c78 | exact absurd c25 c83 | exact absurd c25 c90 | exact absurd c25 hy | exact absurd c25 hyb | exact absurd c78 c25 | exact absurd c78 c83 | exact absurd c78 c90 | exact absurd c78 hy | exact absurd c78 hyb | exact absurd c83 c25 | exact absurd c83 c78 | exact absurd c83 c90 | exact absurd c83 hy | exact absurd c83 hyb | exact absurd c90 c25 | exact absurd c90 c78 | exact absurd c90 c83 | exact absurd c90 hy | exact absurd c90 hyb | exact absurd hy c25 | exact absurd hy c78 | exact absurd hy c83 | exact absurd hy c90 | exact absurd hy hyb | exact absurd hyb c25 | exact absurd hyb c78 | exact absurd hyb c83 | exact absurd hyb c90 | exact absurd hyb hy | (rw [c25] at c78; cases c78) | (rw [c25] at c83; cases c83) | (rw [c25] at c90; cases c90) | (rw [c78] at c25; cases c25) | (rw [c78] at c83; cases c83) | (rw [c78] at c90; cases c90) | (rw [c83] at c25; cases c25) | (rw [c83] at c78; cases c78) | (rw [c83] at c90; cases c90) | (rw [c90] at c25; cases c25) | (rw [c90] at c78; cases c78) | (rw [c90] at c83; cases c83)) | (simp [*, ehF]; done) | with_reducible_and_instances rfl))) (by first | exact hyb | exact Or.inr ⟨j, by omega, rfl⟩) ) (sub_s (sub_s (sub_s (sub_n (sub_s (sub_s (sub_s (sub_s (sub_n sub_nil)))))))))
        exact A_weak (L63 (12) (0) (_) (_)  (by omega) (rfl) (hy) ) (sub_s (sub_s (sub_s (sub_n (sub_s (sub_s (sub_s (sub_s (sub_n sub_nil)))))))))
    exact A_weak (L45 (256) (0) (_) (_) h_1 (_) (by omega) (rfl) (Or.inl rfl) O28 hf) (sub_s (sub_s (sub_s (sub_n (sub_s (sub_s (sub_s (sub_n (sub_n sub_nil)))))))))
  · skip
    try simp only [bI_0, bI_n0, Classical.not_not, Bool.not_eq_false, Bool.true_and, Bool.and_true, decide_eq_true_eq, decide_eq_false_iff_not, dayC_1, dayC_21, dayC_221, dayC_222, inI_1, inI_2, inI_3, inI_5, inI_11, inI_16] at c25
    have n25 := c25
    replace c25 := Int32.not_le.mp c25
    have hcd : CD (wL01 x l0 v) := cz_neg wL01_cz c25
    refine A_aload_n 29 dX10_earliest_28 rfl rfl rfl ?_
    refine A_iload_n 30 dX10_earliest_29 rfl rfl rfl ?_
    refine A_callVI 33 (S_X10_refuse_c X l (by first | assumption | decide | omega | exact Ne.symm (by assumption)) (by first | assumption | (unfold CD; decide))) dX10_earliest_30 rfl kX10_refuse lk_X10_121 rfl O28 (by decide) rfl (Nat.le_of_ble_eq_true rfl) (fun v_5 h_5 qh_5 => ?_)
    obtain ⟨rfl, n0h_5, eh_5⟩ := qh_5
    replace O28 := n0h_5
    replace hf : ∀ i, i ≠ 28 → h_5 i = h i := fun i g0 => (eh_5 i g0).trans (hf i g0)
    refine A_iret dX10_earliest_33 rfl ⟨_, rfl, (by exact rV_n hcd.ne), _, O28, hf⟩
set_option maxHeartbeats 4000000 in
set_option maxRecDepth 100000 in
theorem S_X10_safe (X : En) (l : Launch) {h : Hp} {x : PW} {c : RC} {z : RZ} (O28 : h 28 = some (rB x (-1) c z)) (hW : WOK x)  {p : Int32} : Ct X l mX10_safe [aR 28 0, aI p] h (QI (fun vr h2 => (rV (wP x p) (aSafe x p)) = vr ∧ ∃ (z1 : RZ), h2 (28) = some (rB x (-1) (rS (wP x p) c.1, c.2) z1) ∧ ∀ i, i ≠ 28 → h2 i = h i)) := by
  have hx := hW.1
  have hp := hW.2.1
  have h10 := hx.1
  have hf : ∀ i, i ≠ 28 → h i = h i := fun _ _ => rfl
  refine Ct.intro [some (aR 28 0), some (aI p), none, none, none, none] (by decide +kernel) rfl (Nat.le_of_ble_eq_true rfl) ?_
  refine A_aload_n 1 dX10_safe_0 rfl rfl rfl ?_
  refine A_iconst 2 (0) dX10_safe_1 rfl (by decide) ?_
  refine P_X10_9 5 dX10_safe_2 rfl fw_X10_78 O28 (fun h_1 nh_1 eh_1 => ?_)
  replace O28 := nh_1
  replace hf : ∀ i, i ≠ 28 → h_1 i = h i := fun i g0 => (eh_1 i g0).trans (hf i g0)
  try dsimp only at O28
  refine A_aload_n 6 dX10_safe_5 rfl rfl rfl ?_
  refine A_iload_n 7 dX10_safe_6 rfl rfl rfl ?_
  refine A_callVI 10 (S_X10_isOne X l (by first | assumption | decide | omega | exact Ne.symm (by assumption)) (by first | assumption | decide | omega | exact Ne.symm (by assumption))) dX10_safe_7 rfl kX10_isOne lk_X10_160 rfl O28 (by decide) rfl (Nat.le_of_ble_eq_true rfl) (fun v_2 h_2 qh_2 => ?_)
  obtain ⟨rfl, rfl⟩ := qh_2
  refine A_if_ne 19 13 dX10_safe_10 (by decide) rfl (fun c10 => ?_) (fun c10 => ?_)
  · skip
    try simp only [bI_0, bI_n0, Classical.not_not, Bool.not_eq_false, Bool.true_and, Bool.and_true, decide_eq_true_eq, decide_eq_false_iff_not, dayC_1, dayC_21, dayC_221, dayC_222, inI_1, inI_2, inI_3, inI_5, inI_11, inI_16] at c10
    obtain ⟨k_p, rfl, hk_p⟩ := inN_ex c10 (by omega)
    have cl_p : (nI k_p).toNatClampNeg = k_p := nI_clamp (by omega)
    refine A_aload_n 20 dX10_safe_19 rfl rfl rfl ?_
    refine A_iload_n 21 dX10_safe_20 rfl rfl rfl ?_
    refine A_callVI 24 (S_X10_doneBy_n X l (by first | assumption | decide | omega | exact Ne.symm (by assumption)) (by first | assumption | decide | omega | exact Ne.symm (by assumption)) (by first | assumption | decide | omega | exact Ne.symm (by assumption))) dX10_safe_21 rfl kX10_doneBy lk_X10_115 rfl O28 (by decide) rfl (Nat.le_of_ble_eq_true rfl) (fun v_3 h_3 qh_3 => ?_)
    obtain ⟨rfl, n0h_3, eh_3⟩ := qh_3
    replace O28 := n0h_3
    replace hf : ∀ i, i ≠ 28 → h_3 i = h i := fun i g0 => (eh_3 i g0).trans (hf i g0)
    refine A_pop 25 dX10_safe_24 rfl rfl ?_
    refine A_iconst 26 (0) dX10_safe_25 rfl (by decide) ?_
    refine A_istore_n 27 dX10_safe_26 rfl rfl (by decide) (by first | exact (ast_s (ast_1 rfl)) | exact (ast_s ast_k)) ?_
    have L27 : ∀ (nq i : Nat)  (g27 : Hp) (z2 : RZ), (nq + i = 12) → (z2.1.1 = dLaw x 0 (x.2.1 k_p) ∧ ∀ j, j < i → z2.2.2.2.2.2.2.1 j = dLaw x 0 (x.2.1 k_p) j) → (g27 28 = some (rB x (-1) c z2)) → (∀ i, i ≠ 28 → g27 i = h i) → Av X l mX10_safe 27 [some (aR 28 0), some (aI (nI (k_p))), some (aI (nI (i))), none, none, none] [] g27 (QI (fun vr h2 => (rV (wP x (nI k_p)) (aSafe x (nI k_p))) = vr ∧ ∃ (z1 : RZ), h2 (28) = some (rB x (-1) (rS (wP x (nI k_p)) c.1, c.2) z1) ∧ ∀ i, i ≠ 28 → h2 i = h i)) := by
      intro nq
      induction nq using Nat.strongRecOn with
      | _ nq ih =>
      intro i g27 z2 en hy O28 hf
      refine A_iload_n 28 dX10_safe_27 rfl rfl rfl ?_
      refine A_bipush 30 (12) dX10_safe_28 rfl (by decide) ?_
      refine A_icmp_ge 51 33 dX10_safe_30 (by decide) rfl (fun c30 => ?_) (fun c30 => ?_)
      · skip
        obtain rfl := (up_ge_T (N := 12) c30 rfl (by omega) (by omega)).symm
        have hU := hy.2
        refine A_iconst 52 (0) dX10_safe_51 rfl (by decide) ?_
        refine A_istore_n 53 dX10_safe_52 rfl rfl (by decide) (by first | exact (ast_s (ast_1 rfl)) | exact (ast_s ast_k)) ?_
        refine A_iconst 54 (0) dX10_safe_53 rfl (by decide) ?_
        refine A_istore_n 55 dX10_safe_54 rfl rfl (by decide) (by first | exact (ast_s (ast_s (ast_1 rfl))) | exact (ast_s (ast_s ast_k))) ?_
        have L55 : ∀ (nqb i : Nat) (u : Int32) (g55 : Hp) (z3 : RZ), (nqb + i = 8) → (foldN (itF x (x.2.1 k_p)) (0) i = (u)) → (∀ j, j < 12 → z3.2.2.2.2.2.2.1 j = dLaw x 0 (x.2.1 k_p) j) → (g55 28 = some (rB x (-1) c z3)) → (∀ i, i ≠ 28 → g55 i = h i) → Av X l mX10_safe 55 [some (aR 28 0), some (aI (nI (k_p))), some (aI (u)), some (aI (nI (i))), none, none] [] g55 (QI (fun vr h2 => (rV (wP x (nI k_p)) (aSafe x (nI k_p))) = vr ∧ ∃ (z1 : RZ), h2 (28) = some (rB x (-1) (rS (wP x (nI k_p)) c.1, c.2) z1) ∧ ∀ i, i ≠ 28 → h2 i = h i)) := by
          intro nqb
          induction nqb using Nat.strongRecOn with
          | _ nqb ihb =>
          intro i u g55 z3 enb eeb hyb O28 hf
          refine A_iload_n 56 dX10_safe_55 rfl rfl rfl ?_
          refine A_bipush 58 (8) dX10_safe_56 rfl (by decide) ?_
          refine A_icmp_ge 160 61 dX10_safe_58 (by decide) rfl (fun c58 => ?_) (fun c58 => ?_)
          · skip
            obtain rfl := (up_ge_T (N := 8) c58 rfl (by omega) (by omega)).symm
            refine A_iload_n 161 dX10_safe_160 rfl rfl rfl ?_
            have ew : wP x (nI k_p) = 0 := by
              first | (simp only [c10, cl_p, if_true, if_false, ite_true, ite_false, and_true, true_and, and_false, false_and, and_self, or_true, true_or, or_false, false_or, or_self, not_true_eq_false, not_false_eq_true, decide_true, decide_false, Bool.and_true, Bool.true_and, Bool.and_false, Bool.false_and, Bool.and_self, Bool.or_true, Bool.true_or, Bool.or_false, Bool.false_or, Bool.not_true, Bool.not_false, cond_true, cond_false, bI_t, bI_f, Bool.false_eq_true, Bool.true_eq_false, dayC_1, dayC_21, dayC_221, dayC_222, w01, wP, wPL, wP01, wL01, wRow, w01R, wAB, wNum, isP, isL]; done) | exact cl_f
            refine A_iret dX10_safe_161 rfl ⟨_, rfl, (by rw [ew, rV_0]; unfold aSafe pk; rw [cl_p, eeb]), _, (by rw [ew]; first | (rw [rS_0]; exact O28) | exact O28), hf⟩
          · skip
            have hib := up_ge_F (N := 8) c58 rfl (by omega) (by omega)
            obtain ⟨n0b, rfl⟩ : ∃ q, nqb = q + 1 := ⟨nqb - 1, by omega⟩
            refine A_aload_n 62 dX10_safe_61 rfl rfl rfl ?_
            refine A_getfield 65 dX10_safe_62 rfl f_X10_22 O28 rfl ?_
            refine A_iload_n 66 dX10_safe_65 rfl rfl rfl ?_
            refine A_iaload 67 dX10_safe_66 rfl O28 rfl (by first | assumption | exact ix_nI (by omega) (by decide) | exact ix_lit _ rfl (by omega) (by decide) | exact ix_lit _ rfl (by decide) (by decide)) ?_
            try dsimp only
            refine A_iload_n 68 dX10_safe_67 rfl rfl rfl ?_
            refine A_callSI 71 (S_X10_hasBit X l) dX10_safe_68 rfl kX10_hasBit lk_X10_93 rfl (by decide) rfl (Nat.le_of_ble_eq_true rfl) (fun v_4 h_4 qh_4 => ?_)
            obtain ⟨rfl, rfl⟩ := qh_4
            refine A_if_eq 154 74 dX10_safe_71 (by decide) rfl (fun c71 => ?_) (fun c71 => ?_)
            · skip
              try simp only [bI_0, bI_n0, Classical.not_not, Bool.not_eq_false, Bool.true_and, Bool.and_true, decide_eq_true_eq, decide_eq_false_iff_not, dayC_1, dayC_21, dayC_221, dayC_222, inI_1, inI_2, inI_3, inI_5, inI_11, inI_16] at c71
              first | refine A_iincN 157 dX10_safe_154 rfl rfl (by decide) (by first | exact (ast_s (ast_s (ast_1 rfl))) | exact (ast_s (ast_s ast_k))) ?_ | refine A_iinc 157 (1) dX10_safe_154 rfl rfl (by decide) (by decide) (by first | exact (ast_s (ast_s (ast_1 rfl))) | exact (ast_s (ast_s ast_k))) ?_
              refine A_goto 55 dX10_safe_157 (by decide) ?_
              exact A_weak (ihb n0b (Nat.lt_succ_self n0b) (i + 1) _ g55 _ (by omega) ((foldN_s (itF x (x.2.1 k_p)) (0) i).trans ((congrArg ((itF x (x.2.1 k_p)) i) eeb).trans (by first | with_reducible rfl | (simp only [c10, cl_p, c71, if_true, if_false, ite_true, ite_false, and_true, true_and, and_false, false_and, and_self, or_true, true_or, or_false, false_or, or_self, not_true_eq_false, not_false_eq_true, decide_true, decide_false, Bool.and_true, Bool.true_and, Bool.and_false, Bool.false_and, Bool.and_self, Bool.or_true, Bool.true_or, Bool.or_false, Bool.false_or, Bool.not_true, Bool.not_false, cond_true, cond_false, bI_t, bI_f, Bool.false_eq_true, Bool.true_eq_false, dayC_1, dayC_21, dayC_221, dayC_222, itF, Int32.or_zero]; done) | (simp [*, itF, Int32.or_zero]; done) | with_reducible_and_instances rfl))) (by exact hyb) O28 hf) (sub_s (sub_s (sub_s (sub_s (sub_n (sub_n sub_nil))))))
            · skip
              try simp only [bI_0, bI_n0, Classical.not_not, Bool.not_eq_false, Bool.true_and, Bool.and_true, decide_eq_true_eq, decide_eq_false_iff_not, dayC_1, dayC_21, dayC_221, dayC_222, inI_1, inI_2, inI_3, inI_5, inI_11, inI_16] at c71
              refine A_aload_n 75 dX10_safe_74 rfl rfl rfl ?_
              refine A_aload_n 76 dX10_safe_75 rfl rfl rfl ?_
              refine A_getfield 79 dX10_safe_76 rfl f_X10_22 O28 rfl ?_
              refine A_iload_n 80 dX10_safe_79 rfl rfl rfl ?_
              refine A_iaload 81 dX10_safe_80 rfl O28 rfl (by first | assumption | exact ix_nI (by omega) (by decide) | exact ix_lit _ rfl (by omega) (by decide) | exact ix_lit _ rfl (by decide) (by decide)) ?_
              try dsimp only
              refine A_iconst 82 (1) dX10_safe_81 rfl (by decide) ?_
              refine A_iload_n 83 dX10_safe_82 rfl rfl rfl ?_
              refine A_ishl 84 dX10_safe_83 rfl ?_
              rw [sh_tb hib]
              refine A_iconst 85 (-1) dX10_safe_84 rfl (by decide) ?_
              refine A_ixor 86 dX10_safe_85 rfl ?_
              refine A_iand 87 dX10_safe_86 rfl ?_
              refine A_callVI 90 (S_X10_goDay_n X l (by first | assumption | decide | omega | exact Ne.symm (by assumption)) (by first | assumption | decide | omega | exact Ne.symm (by assumption))) dX10_safe_87 rfl kX10_goDay lk_X10_108 rfl O28 (by decide) rfl (Nat.le_of_ble_eq_true rfl) (fun v_5 h_5 qh_5 => ?_)
              obtain ⟨rfl, n0h_5, eh_5⟩ := qh_5
              replace O28 := n0h_5
              replace hf : ∀ i, i ≠ 28 → h_5 i = h i := fun i g0 => (eh_5 i g0).trans (hf i g0)
              refine A_pop 91 dX10_safe_90 rfl rfl ?_
              refine A_iconst 92 (1) dX10_safe_91 rfl (by decide) ?_
              refine A_istore 94 dX10_safe_92 rfl (by decide) (by first | exact (ast_s (ast_s (ast_s (ast_1 rfl)))) | exact (ast_s (ast_s (ast_s ast_k)))) ?_
              refine A_iconst 95 (0) dX10_safe_94 rfl (by decide) ?_
              refine A_istore 97 dX10_safe_95 rfl (by decide) (by first | exact (ast_s (ast_s (ast_s (ast_s (ast_1 rfl))))) | exact (ast_s (ast_s (ast_s (ast_s ast_k))))) ?_
              have L97 : ∀ (nqc j : Nat) (g : Int32) , (nqc + j = 12) → (g = bI (sameN (dLaw x 0 (x.2.1 k_p &&& (tbI (nI i) ^^^ (-1)))) (dLaw x 0 (x.2.1 k_p)) j)) → Av X l mX10_safe 97 [some (aR 28 0), some (aI (nI (k_p))), some (aI (u)), some (aI (nI (i))), some (aI (g)), some (aI (nI (j)))] [] h_5 (QI (fun vr h2 => (rV (wP x (nI k_p)) (aSafe x (nI k_p))) = vr ∧ ∃ (z1 : RZ), h2 (28) = some (rB x (-1) (rS (wP x (nI k_p)) c.1, c.2) z1) ∧ ∀ i, i ≠ 28 → h2 i = h i)) := by
                intro nqc
                induction nqc using Nat.strongRecOn with
                | _ nqc ihc =>
                intro j g enc eec
                subst eec
                refine A_iload 99 dX10_safe_97 rfl rfl ?_
                refine A_bipush 101 (12) dX10_safe_99 rfl (by decide) ?_
                refine A_icmp_ge 139 104 dX10_safe_101 (by decide) rfl (fun c101 => ?_) (fun c101 => ?_)
                · skip
                  obtain rfl := (up_ge_T (N := 12) c101 rfl (by omega) (by omega)).symm
                  refine A_iload_n 140 dX10_safe_139 rfl rfl rfl ?_
                  refine A_iload 142 dX10_safe_140 rfl rfl ?_
                  refine A_if_eq 151 145 dX10_safe_142 (by decide) rfl (fun c142 => ?_) (fun c142 => ?_)
                  · skip
                    try simp only [bI_0, bI_n0, Classical.not_not, Bool.not_eq_false, Bool.true_and, Bool.and_true, decide_eq_true_eq, decide_eq_false_iff_not, dayC_1, dayC_21, dayC_221, dayC_222, inI_1, inI_2, inI_3, inI_5, inI_11, inI_16] at c142
                    refine A_iconst 152 (0) dX10_safe_151 rfl (by decide) ?_
                    refine A_ior 153 dX10_safe_152 rfl ?_
                    refine A_istore_n 154 dX10_safe_153 rfl rfl (by decide) (by first | exact (ast_s (ast_1 rfl)) | exact (ast_s ast_k)) ?_
                    first | refine A_iincN 157 dX10_safe_154 rfl rfl (by decide) (by first | exact (ast_s (ast_s (ast_1 rfl))) | exact (ast_s (ast_s ast_k))) ?_ | refine A_iinc 157 (1) dX10_safe_154 rfl rfl (by decide) (by decide) (by first | exact (ast_s (ast_s (ast_1 rfl))) | exact (ast_s (ast_s ast_k))) ?_
                    refine A_goto 55 dX10_safe_157 (by decide) ?_
                    exact A_weak (ihb n0b (Nat.lt_succ_self n0b) (i + 1) _ h_5 _ (by omega) ((foldN_s (itF x (x.2.1 k_p)) (0) i).trans ((congrArg ((itF x (x.2.1 k_p)) i) eeb).trans (by first | with_reducible rfl | (simp only [c10, cl_p, c71, c142, if_true, if_false, ite_true, ite_false, and_true, true_and, and_false, false_and, and_self, or_true, true_or, or_false, false_or, or_self, not_true_eq_false, not_false_eq_true, decide_true, decide_false, Bool.and_true, Bool.true_and, Bool.and_false, Bool.false_and, Bool.and_self, Bool.or_true, Bool.true_or, Bool.or_false, Bool.false_or, Bool.not_true, Bool.not_false, cond_true, cond_false, bI_t, bI_f, Bool.false_eq_true, Bool.true_eq_false, dayC_1, dayC_21, dayC_221, dayC_222, itF, Int32.or_zero]; done) | (simp only [c10, cl_p, c71, eq_true c142, if_true, if_false, ite_true, ite_false, and_true, true_and, and_false, false_and, and_self, or_true, true_or, or_false, false_or, or_self, not_true_eq_false, not_false_eq_true, decide_true, decide_false, Bool.and_true, Bool.true_and, Bool.and_false, Bool.false_and, Bool.and_self, Bool.or_true, Bool.true_or, Bool.or_false, Bool.false_or, Bool.not_true, Bool.not_false, cond_true, cond_false, bI_t, bI_f, Bool.false_eq_true, Bool.true_eq_false, dayC_1, dayC_21, dayC_221, dayC_222, itF, Int32.or_zero]; done) | (simp [*, itF, Int32.or_zero]; done) | with_reducible_and_instances rfl))) (by exact hyb) O28 hf) (sub_s (sub_s (sub_s (sub_s (sub_n (sub_n sub_nil))))))
                  · skip
                    try simp only [bI_0, bI_n0, Classical.not_not, Bool.not_eq_false, Bool.true_and, Bool.and_true, decide_eq_true_eq, decide_eq_false_iff_not, dayC_1, dayC_21, dayC_221, dayC_222, inI_1, inI_2, inI_3, inI_5, inI_11, inI_16] at c142
                    refine A_iconst 146 (1) dX10_safe_145 rfl (by decide) ?_
                    refine A_iload_n 147 dX10_safe_146 rfl rfl rfl ?_
                    refine A_ishl 148 dX10_safe_147 rfl ?_
                    rw [sh_tb hib]
                    refine A_goto 152 dX10_safe_148 (by decide) ?_
                    refine A_ior 153 dX10_safe_152 rfl ?_
                    refine A_istore_n 154 dX10_safe_153 rfl rfl (by decide) (by first | exact (ast_s (ast_1 rfl)) | exact (ast_s ast_k)) ?_
                    first | refine A_iincN 157 dX10_safe_154 rfl rfl (by decide) (by first | exact (ast_s (ast_s (ast_1 rfl))) | exact (ast_s (ast_s ast_k))) ?_ | refine A_iinc 157 (1) dX10_safe_154 rfl rfl (by decide) (by decide) (by first | exact (ast_s (ast_s (ast_1 rfl))) | exact (ast_s (ast_s ast_k))) ?_
                    refine A_goto 55 dX10_safe_157 (by decide) ?_
                    exact A_weak (ihb n0b (Nat.lt_succ_self n0b) (i + 1) _ h_5 _ (by omega) ((foldN_s (itF x (x.2.1 k_p)) (0) i).trans ((congrArg ((itF x (x.2.1 k_p)) i) eeb).trans (by first | with_reducible rfl | (simp only [c10, cl_p, c71, c142, if_true, if_false, ite_true, ite_false, and_true, true_and, and_false, false_and, and_self, or_true, true_or, or_false, false_or, or_self, not_true_eq_false, not_false_eq_true, decide_true, decide_false, Bool.and_true, Bool.true_and, Bool.and_false, Bool.false_and, Bool.and_self, Bool.or_true, Bool.true_or, Bool.or_false, Bool.false_or, Bool.not_true, Bool.not_false, cond_true, cond_false, bI_t, bI_f, Bool.false_eq_true, Bool.true_eq_false, dayC_1, dayC_21, dayC_221, dayC_222, itF, Int32.or_zero]; done) | (simp [*, itF, Int32.or_zero]; done) | with_reducible_and_instances rfl))) (by exact hyb) O28 hf) (sub_s (sub_s (sub_s (sub_s (sub_n (sub_n sub_nil))))))
                · skip
                  have hic := up_ge_F (N := 12) c101 rfl (by omega) (by omega)
                  obtain ⟨n0c, rfl⟩ : ∃ q, nqc = q + 1 := ⟨nqc - 1, by omega⟩
                  refine A_iload 106 dX10_safe_104 rfl rfl ?_
                  refine A_if_eq 130 109 dX10_safe_106 (by decide) rfl (fun c106 => ?_) (fun c106 => ?_)
                  · skip
                    try simp only [bI_0, bI_n0, Classical.not_not, Bool.not_eq_false, Bool.true_and, Bool.and_true, decide_eq_true_eq, decide_eq_false_iff_not, dayC_1, dayC_21, dayC_221, dayC_222, inI_1, inI_2, inI_3, inI_5, inI_11, inI_16] at c106
                    refine A_iconst 131 (0) dX10_safe_130 rfl (by decide) ?_
                    refine A_istore 133 dX10_safe_131 rfl (by decide) (by first | exact (ast_s (ast_s (ast_s (ast_1 rfl)))) | exact (ast_s (ast_s (ast_s ast_k)))) ?_
                    first | refine A_iincN 136 dX10_safe_133 rfl rfl (by decide) (by first | exact (ast_s (ast_s (ast_s (ast_s (ast_1 rfl))))) | exact (ast_s (ast_s (ast_s (ast_s ast_k))))) ?_ | refine A_iinc 136 (1) dX10_safe_133 rfl rfl (by decide) (by decide) (by first | exact (ast_s (ast_s (ast_s (ast_s (ast_1 rfl))))) | exact (ast_s (ast_s (ast_s (ast_s ast_k))))) ?_
                    refine A_goto 97 dX10_safe_136 (by decide) ?_
                    exact ihc n0c (Nat.lt_succ_self n0c) (j + 1) _  (by omega) ((by first | (simp only [c10, cl_p, c71, c106, if_true, if_false, ite_true, ite_false, and_true, true_and, and_false, false_and, and_self, or_true, true_or, or_false, false_or, or_self, not_true_eq_false, not_false_eq_true, decide_true, decide_false, Bool.and_true, Bool.true_and, Bool.and_false, Bool.false_and, Bool.and_self, Bool.or_true, Bool.true_or, Bool.or_false, Bool.false_or, Bool.not_true, Bool.not_false, cond_true, cond_false, bI_t, bI_f, Bool.false_eq_true, Bool.true_eq_false, dayC_1, dayC_21, dayC_221, dayC_222, sameN]; done) | (simp only [c10, cl_p, c71, eq_true c106, if_true, if_false, ite_true, ite_false, and_true, true_and, and_false, false_and, and_self, or_true, true_or, or_false, false_or, or_self, not_true_eq_false, not_false_eq_true, decide_true, decide_false, Bool.and_true, Bool.true_and, Bool.and_false, Bool.false_and, Bool.and_self, Bool.or_true, Bool.true_or, Bool.or_false, Bool.false_or, Bool.not_true, Bool.not_false, cond_true, cond_false, bI_t, bI_f, Bool.false_eq_true, Bool.true_eq_false, dayC_1, dayC_21, dayC_221, dayC_222, sameN]; done))) 
                  · skip
                    try simp only [bI_0, bI_n0, Classical.not_not, Bool.not_eq_false, Bool.true_and, Bool.and_true, decide_eq_true_eq, decide_eq_false_iff_not, dayC_1, dayC_21, dayC_221, dayC_222, inI_1, inI_2, inI_3, inI_5, inI_11, inI_16] at c106
                    refine A_aload_n 110 dX10_safe_109 rfl rfl rfl ?_
                    refine A_getfield 113 dX10_safe_110 rfl f_X10_32 O28 rfl ?_
                    refine A_iload 115 dX10_safe_113 rfl rfl ?_
                    refine A_iaload 116 dX10_safe_115 rfl O28 rfl (by first | assumption | exact ix_nI (by omega) (by decide) | exact ix_lit _ rfl (by omega) (by decide) | exact ix_lit _ rfl (by decide) (by decide)) ?_
                    try dsimp only
                    refine A_aload_n 117 dX10_safe_116 rfl rfl rfl ?_
                    refine A_getfield 120 dX10_safe_117 rfl f_X10_75 O28 rfl ?_
                    refine A_iload 122 dX10_safe_120 rfl rfl ?_
                    refine A_iaload 123 dX10_safe_122 rfl O28 rfl (by first | assumption | exact ix_nI (by omega) (by decide) | exact ix_lit _ rfl (by omega) (by decide) | exact ix_lit _ rfl (by decide) (by decide)) ?_
                    try dsimp only
                    rw [hyb j (by omega)]
                    refine A_icmp_ne 130 126 dX10_safe_123 (by decide) rfl (fun c123 => ?_) (fun c123 => ?_)
                    · skip
                      try simp only [bI_0, bI_n0, Classical.not_not, Bool.not_eq_false, Bool.true_and, Bool.and_true, decide_eq_true_eq, decide_eq_false_iff_not, dayC_1, dayC_21, dayC_221, dayC_222, inI_1, inI_2, inI_3, inI_5, inI_11, inI_16] at c123
                      refine A_iconst 131 (0) dX10_safe_130 rfl (by decide) ?_
                      refine A_istore 133 dX10_safe_131 rfl (by decide) (by first | exact (ast_s (ast_s (ast_s (ast_1 rfl)))) | exact (ast_s (ast_s (ast_s ast_k)))) ?_
                      first | refine A_iincN 136 dX10_safe_133 rfl rfl (by decide) (by first | exact (ast_s (ast_s (ast_s (ast_s (ast_1 rfl))))) | exact (ast_s (ast_s (ast_s (ast_s ast_k))))) ?_ | refine A_iinc 136 (1) dX10_safe_133 rfl rfl (by decide) (by decide) (by first | exact (ast_s (ast_s (ast_s (ast_s (ast_1 rfl))))) | exact (ast_s (ast_s (ast_s (ast_s ast_k))))) ?_
                      refine A_goto 97 dX10_safe_136 (by decide) ?_
                      exact ihc n0c (Nat.lt_succ_self n0c) (j + 1) _  (by omega) ((by first | (simp only [c10, cl_p, c71, c106, c123, if_true, if_false, ite_true, ite_false, and_true, true_and, and_false, false_and, and_self, or_true, true_or, or_false, false_or, or_self, not_true_eq_false, not_false_eq_true, decide_true, decide_false, Bool.and_true, Bool.true_and, Bool.and_false, Bool.false_and, Bool.and_self, Bool.or_true, Bool.true_or, Bool.or_false, Bool.false_or, Bool.not_true, Bool.not_false, cond_true, cond_false, bI_t, bI_f, Bool.false_eq_true, Bool.true_eq_false, dayC_1, dayC_21, dayC_221, dayC_222, sameN]; done))) 
                    · skip
                      try simp only [bI_0, bI_n0, Classical.not_not, Bool.not_eq_false, Bool.true_and, Bool.and_true, decide_eq_true_eq, decide_eq_false_iff_not, dayC_1, dayC_21, dayC_221, dayC_222, inI_1, inI_2, inI_3, inI_5, inI_11, inI_16] at c123
                      refine A_iconst 127 (1) dX10_safe_126 rfl (by decide) ?_
                      refine A_goto 131 dX10_safe_127 (by decide) ?_
                      refine A_istore 133 dX10_safe_131 rfl (by decide) (by first | exact (ast_s (ast_s (ast_s (ast_1 rfl)))) | exact (ast_s (ast_s (ast_s ast_k)))) ?_
                      first | refine A_iincN 136 dX10_safe_133 rfl rfl (by decide) (by first | exact (ast_s (ast_s (ast_s (ast_s (ast_1 rfl))))) | exact (ast_s (ast_s (ast_s (ast_s ast_k))))) ?_ | refine A_iinc 136 (1) dX10_safe_133 rfl rfl (by decide) (by decide) (by first | exact (ast_s (ast_s (ast_s (ast_s (ast_1 rfl))))) | exact (ast_s (ast_s (ast_s (ast_s ast_k))))) ?_
                      refine A_goto 97 dX10_safe_136 (by decide) ?_
                      exact ihc n0c (Nat.lt_succ_self n0c) (j + 1) _  (by omega) ((by first | (simp only [c10, cl_p, c71, c106, c123, if_true, if_false, ite_true, ite_false, and_true, true_and, and_false, false_and, and_self, or_true, true_or, or_false, false_or, or_self, not_true_eq_false, not_false_eq_true, decide_true, decide_false, Bool.and_true, Bool.true_and, Bool.and_false, Bool.false_and, Bool.and_self, Bool.or_true, Bool.true_or, Bool.or_false, Bool.false_or, Bool.not_true, Bool.not_false, cond_true, cond_false, bI_t, bI_f, Bool.false_eq_true, Bool.true_eq_false, dayC_1, dayC_21, dayC_221, dayC_222, sameN]; done) | (simp only [c10, cl_p, c71, c106, eq_true c123, if_true, if_false, ite_true, ite_false, and_true, true_and, and_false, false_and, and_self, or_true, true_or, or_false, false_or, or_self, not_true_eq_false, not_false_eq_true, decide_true, decide_false, Bool.and_true, Bool.true_and, Bool.and_false, Bool.false_and, Bool.and_self, Bool.or_true, Bool.true_or, Bool.or_false, Bool.false_or, Bool.not_true, Bool.not_false, cond_true, cond_false, bI_t, bI_f, Bool.false_eq_true, Bool.true_eq_false, dayC_1, dayC_21, dayC_221, dayC_222, sameN]; done))) 
              exact L97 (12) (0) (_)  (by omega) (rfl) 
        exact A_weak (L55 (8) (0) (_) g27 (_) (by omega) (rfl) (hU) O28 hf) (sub_s (sub_s (sub_s (sub_s (sub_n (sub_n sub_nil))))))
      · skip
        have hi := up_ge_F (N := 12) c30 rfl (by omega) (by omega)
        obtain ⟨n0, rfl⟩ : ∃ q, nq = q + 1 := ⟨nq - 1, by omega⟩
        refine A_aload_n 34 dX10_safe_33 rfl rfl rfl ?_
        refine A_getfield 37 dX10_safe_34 rfl f_X10_75 O28 rfl ?_
        refine A_iload_n 38 dX10_safe_37 rfl rfl rfl ?_
        refine A_aload_n 39 dX10_safe_38 rfl rfl rfl ?_
        refine A_getfield 42 dX10_safe_39 rfl f_X10_32 O28 rfl ?_
        refine A_iload_n 43 dX10_safe_42 rfl rfl rfl ?_
        refine A_iaload 44 dX10_safe_43 rfl O28 rfl (by first | assumption | exact ix_nI (by omega) (by decide) | exact ix_lit _ rfl (by omega) (by decide) | exact ix_lit _ rfl (by decide) (by decide)) ?_
        try dsimp only
        refine T_X10_20 45 dX10_safe_44 rfl O28 (by first | assumption | exact ix_nI (by omega) (by decide) | exact ix_lit _ rfl (by omega) (by decide) | exact ix_lit _ rfl (by decide) (by decide)) (fun h_6 nh_6 eh_6 => ?_)
        replace O28 := nh_6
        replace hf : ∀ i, i ≠ 28 → h_6 i = h i := fun i g0 => (eh_6 i g0).trans (hf i g0)
        try dsimp only at O28
        first | refine A_iincN 48 dX10_safe_45 rfl rfl (by decide) (by first | exact (ast_s (ast_1 rfl)) | exact (ast_s ast_k)) ?_ | refine A_iinc 48 (1) dX10_safe_45 rfl rfl (by decide) (by decide) (by first | exact (ast_s (ast_1 rfl)) | exact (ast_s ast_k)) ?_
        refine A_goto 27 dX10_safe_48 (by decide) ?_
        exact A_weak (ih n0 (Nat.lt_succ_self n0) (i + 1)  h_6 _ (by omega)  (by exact ⟨hy.1, up_eq (D := dLaw x 0 (x.2.1 k_p)) hy.2 (by rw [hy.1])⟩) O28 hf) (sub_s (sub_s (sub_s (sub_n (sub_n (sub_n sub_nil))))))
    exact A_weak (L27 (12) (0)  h_3 (_) (by omega)  (⟨rfl, fun j hj => absurd hj (Nat.not_lt_zero j)⟩) O28 hf) (sub_s (sub_s (sub_s (sub_n (sub_n (sub_n sub_nil))))))
  · skip
    try simp only [bI_0, bI_n0, Classical.not_not, Bool.not_eq_false, Bool.true_and, Bool.and_true, decide_eq_true_eq, decide_eq_false_iff_not, dayC_1, dayC_21, dayC_221, dayC_222, inI_1, inI_2, inI_3, inI_5, inI_11, inI_16] at c10
    refine A_aload_n 14 dX10_safe_13 rfl rfl rfl ?_
    refine A_iconst 15 (-1) dX10_safe_14 rfl (by decide) ?_
    refine A_callVI 18 (S_X10_refuse_c X l (by first | assumption | decide | omega | exact Ne.symm (by assumption)) (by first | assumption | (unfold CD; decide))) dX10_safe_15 rfl kX10_refuse lk_X10_121 rfl O28 (by decide) rfl (Nat.le_of_ble_eq_true rfl) (fun v_7 h_7 qh_7 => ?_)
    obtain ⟨rfl, n0h_7, eh_7⟩ := qh_7
    replace O28 := n0h_7
    replace hf : ∀ i, i ≠ 28 → h_7 i = h i := fun i g0 => (eh_7 i g0).trans (hf i g0)
    have ew : wP x p = -1 := by
      first | (simp only [c10, if_true, if_false, ite_true, ite_false, and_true, true_and, and_false, false_and, and_self, or_true, true_or, or_false, false_or, or_self, not_true_eq_false, not_false_eq_true, decide_true, decide_false, Bool.and_true, Bool.true_and, Bool.and_false, Bool.false_and, Bool.and_self, Bool.or_true, Bool.true_or, Bool.or_false, Bool.false_or, Bool.not_true, Bool.not_false, cond_true, cond_false, bI_t, bI_f, Bool.false_eq_true, Bool.true_eq_false, dayC_1, dayC_21, dayC_221, dayC_222, w01, wP, wPL, wP01, wL01, wRow, w01R, wAB, wNum, isP, isL]; done) | exact cl_f
    refine A_iret dX10_safe_18 rfl ⟨_, rfl, (by rw [ew]; exact rV_n (by decide)), _, (by rw [ew]; first | (rw [rS_0]; exact O28) | exact O28), hf⟩
set_option maxHeartbeats 4000000 in
set_option maxRecDepth 100000 in
theorem S_X10_drawBelow (X : En) (l : Launch) {h : Hp} {x : PW} {c : RC} {z : RZ} (O28 : h 28 = some (rB x (-1) c z)) : Ct X l mX10_drawBelow [aR 28 0, aI 8] h (QI (PI1 (zT (zN z.2.2.2.2.2.2.2.1)) h (28) (rB x (-1) c (z.1, z.2.1, z.2.2.1, z.2.2.2.1, z.2.2.2.2.1, z.2.2.2.2.2.1, z.2.2.2.2.2.2.1, zN z.2.2.2.2.2.2.2.1, z.2.2.2.2.2.2.2.2)))) := by
  have hf : ∀ i, i ≠ 28 → h i = h i := fun _ _ => rfl
  refine Ct.intro [some (aR 28 0), some (aI 8)] (by decide +kernel) rfl (Nat.le_of_ble_eq_true rfl) ?_
  refine A_aload_n 1 dX10_drawBelow_0 rfl rfl rfl ?_
  refine A_aload_n 2 dX10_drawBelow_1 rfl rfl rfl ?_
  refine A_getfield 5 dX10_drawBelow_2 rfl f_X10_277 O28 rfl ?_
  try dsimp only
  refine A_ldc_w 8 _ dX10_drawBelow_5 rfl cn_X10_280 ?_
  refine A_imul 9 dX10_drawBelow_8 rfl ?_
  refine A_sipush 12 (12345) dX10_drawBelow_9 rfl (by decide) ?_
  refine A_iadd 13 dX10_drawBelow_12 rfl ?_
  rw [show z.2.2.2.2.2.2.2.1 * 1103515245 + 12345 = zN z.2.2.2.2.2.2.2.1 from rfl]
  refine P_X10_37 16 dX10_drawBelow_13 rfl fw_X10_277 O28 (fun h_1 nh_1 eh_1 => ?_)
  replace O28 := nh_1
  replace hf : ∀ i, i ≠ 28 → h_1 i = h i := fun i g0 => (eh_1 i g0).trans (hf i g0)
  try dsimp only at O28
  refine A_aload_n 17 dX10_drawBelow_16 rfl rfl rfl ?_
  refine A_getfield 20 dX10_drawBelow_17 rfl f_X10_277 O28 rfl ?_
  try dsimp only
  refine A_ldc_w 23 _ dX10_drawBelow_20 rfl cn_X10_281 ?_
  refine A_iand 24 dX10_drawBelow_23 rfl ?_
  refine A_ldc_w 27 _ dX10_drawBelow_24 rfl cn_X10_282 ?_
  refine A_idiv 28 dX10_drawBelow_27 rfl (by decide) ?_
  rw [draw_eq]
  refine A_iload_n 29 dX10_drawBelow_28 rfl rfl rfl ?_
  refine A_irem 30 dX10_drawBelow_29 rfl (by decide) ?_
  refine A_iret dX10_drawBelow_30 rfl ⟨_, rfl, (by rfl), O28, hf⟩
set_option maxHeartbeats 4000000 in
set_option maxRecDepth 100000 in
theorem S_X10_lots (X : En) (l : Launch) {h : Hp} {x : PW} {c : RC} {z : RZ} (O28 : h 28 = some (rB x (-1) c z)) (hW : WOK x)  {n z0 v : Int32} : Ct X l mX10_lots [aR 28 0, aI n, aI z0, aI v] h (QI (fun vr h2 => (rV (wLots n v) (aLots x n z0 v)) = vr ∧ ∃ (z1 : RZ), h2 (28) = some (rB x (-1) (rS (wLots n v) c.1, c.2) z1) ∧ ∀ i, i ≠ 28 → h2 i = h i)) := by
  have hx := hW.1
  have hp := hW.2.1
  have h10 := hx.1
  have hf : ∀ i, i ≠ 28 → h i = h i := fun _ _ => rfl
  refine Ct.intro [some (aR 28 0), some (aI n), some (aI z0), some (aI v), none, none, none, none, none, none] (by decide +kernel) rfl (Nat.le_of_ble_eq_true rfl) ?_
  refine A_aload_n 1 dX10_lots_0 rfl rfl rfl ?_
  refine A_iconst 2 (0) dX10_lots_1 rfl (by decide) ?_
  refine P_X10_9 5 dX10_lots_2 rfl fw_X10_78 O28 (fun h_1 nh_1 eh_1 => ?_)
  replace O28 := nh_1
  replace hf : ∀ i, i ≠ 28 → h_1 i = h i := fun i g0 => (eh_1 i g0).trans (hf i g0)
  try dsimp only at O28
  refine A_joinI 17 (fun vj => vj = wLots n v) (fun j17 => ?_) (fun v17 e17 => ?_)
  · skip
    refine A_iload_n 6 dX10_lots_5 rfl rfl rfl ?_
    refine A_iconst 7 (1) dX10_lots_6 rfl (by decide) ?_
    refine A_bipush 9 (20) dX10_lots_7 rfl (by decide) ?_
    refine A_callSI 12 (S_X10_wrongNumber X l) dX10_lots_9 rfl kX10_wrongNumber lk_X10_213 rfl (by decide) rfl (Nat.le_of_ble_eq_true rfl) (fun v_2 h_2 qh_2 => ?_)
    obtain ⟨rfl, rfl⟩ := qh_2
    refine A_iload_n 13 dX10_lots_12 rfl rfl rfl ?_
    refine A_iconst 14 (1) dX10_lots_13 rfl (by decide) ?_
    refine A_callSI 17 (S_X10_wrongBit X l) dX10_lots_14 rfl kX10_wrongBit lk_X10_225 rfl (by decide) rfl (Nat.le_of_ble_eq_true rfl) (fun v_3 h_3 qh_3 => ?_)
    obtain ⟨rfl, rfl⟩ := qh_3
    exact j17 _ (by first | (simp only [if_true, if_false, ite_true, ite_false, and_true, true_and, and_false, false_and, and_self, or_true, true_or, or_false, false_or, or_self, not_true_eq_false, not_false_eq_true, decide_true, decide_false, Bool.and_true, Bool.true_and, Bool.and_false, Bool.false_and, Bool.and_self, Bool.or_true, Bool.true_or, Bool.or_false, Bool.false_or, Bool.not_true, Bool.not_false, cond_true, cond_false, bI_t, bI_f, Bool.false_eq_true, Bool.true_eq_false, dayC_1, dayC_21, dayC_221, dayC_222, wLots, w01, wP, wPL, wP01, wL01, wRow, w01R, wAB, wNum, isP, isL, wrB_N, wrB_0, wrB_1]; done) | (simp only [if_true, if_false, ite_true, ite_false, and_true, true_and, and_false, false_and, and_self, or_true, true_or, or_false, false_or, or_self, not_true_eq_false, not_false_eq_true, decide_true, decide_false, Bool.and_true, Bool.true_and, Bool.and_false, Bool.false_and, Bool.and_self, Bool.or_true, Bool.true_or, Bool.or_false, Bool.false_or, Bool.not_true, Bool.not_false, cond_true, cond_false, bI_t, bI_f, Bool.false_eq_true, Bool.true_eq_false, dayC_1, dayC_21, dayC_221, dayC_222, wrN, wLots, w01, wP, wPL, wP01, wL01, wRow, w01R, wAB, wNum, isP, isL, wrB_N, wrB_0, wrB_1]; done) | (simp only [if_true, if_false, ite_true, ite_false, and_true, true_and, and_false, false_and, and_self, or_true, true_or, or_false, false_or, or_self, not_true_eq_false, not_false_eq_true, decide_true, decide_false, Bool.and_true, Bool.true_and, Bool.and_false, Bool.false_and, Bool.and_self, Bool.or_true, Bool.true_or, Bool.or_false, Bool.false_or, Bool.not_true, Bool.not_false, cond_true, cond_false, bI_t, bI_f, Bool.false_eq_true, Bool.true_eq_false, dayC_1, dayC_21, dayC_221, dayC_222, wrN, wLots, w01, wP, wPL, wP01, wL01, wRow, w01R, wAB, wNum, isP, isL, wrB_N, wrB_0, wrB_1]; rfl))
  subst e17
  refine A_istore 19 dX10_lots_17 rfl (by decide) (by first | exact (ast_s (ast_s (ast_s (ast_1 rfl)))) | exact (ast_s (ast_s (ast_s ast_k)))) ?_
  refine A_iload 21 dX10_lots_19 rfl rfl ?_
  refine A_if_ge 31 24 dX10_lots_21 (by decide) rfl (fun c21 => ?_) (fun c21 => ?_)
  · skip
    try simp only [bI_0, bI_n0, Classical.not_not, Bool.not_eq_false, Bool.true_and, Bool.and_true, decide_eq_true_eq, decide_eq_false_iff_not, dayC_1, dayC_21, dayC_221, dayC_222, inI_1, inI_2, inI_3, inI_5, inI_11, inI_16] at c21
    have n21 := c21
    replace c21 := Int32.not_lt.mpr c21
    have hw0 : wLots n v = 0 := cz_pos wLots_cz c21
    obtain ⟨f1, f2, f3⟩ := wLots_0 hw0
    obtain ⟨k_n, rfl, hk_n⟩ := nI_exg (n := 20) (fun q => f1 (Int32.lt_trans q (by decide))) f2 (by decide)
    have cl_n : (nI k_n).toNatClampNeg = k_n := nI_clamp (by omega)
    refine A_aload_n 32 dX10_lots_31 rfl rfl rfl ?_
    refine A_iload_n 33 dX10_lots_32 rfl rfl rfl ?_
    refine P_X10_37 36 dX10_lots_33 rfl fw_X10_277 O28 (fun h_4 nh_4 eh_4 => ?_)
    replace O28 := nh_4
    replace hf : ∀ i, i ≠ 28 → h_4 i = h i := fun i g0 => (eh_4 i g0).trans (hf i g0)
    try dsimp only at O28
    refine A_iconst 37 (0) dX10_lots_36 rfl (by decide) ?_
    refine A_istore 39 dX10_lots_37 rfl (by decide) (by first | exact (ast_s (ast_s (ast_s (ast_s (ast_1 rfl))))) | exact (ast_s (ast_s (ast_s (ast_s ast_k))))) ?_
    refine A_iconst 40 (0) dX10_lots_39 rfl (by decide) ?_
    refine A_istore 42 dX10_lots_40 rfl (by decide) (by first | exact (ast_s (ast_s (ast_s (ast_s (ast_s (ast_1 rfl)))))) | exact (ast_s (ast_s (ast_s (ast_s (ast_s ast_k)))))) ?_
    refine A_iconst 43 (0) dX10_lots_42 rfl (by decide) ?_
    refine A_istore 45 dX10_lots_43 rfl (by decide) (by first | exact (ast_s (ast_s (ast_s (ast_s (ast_s (ast_s (ast_1 rfl))))))) | exact (ast_s (ast_s (ast_s (ast_s (ast_s (ast_s ast_k))))))) ?_
    have L45 : ∀ (nq i : Nat) (sd s t : Int32) (g45 : Hp) (z2 : RZ), (nq + i = k_n) → (foldN (ltO x) ((z0, 0, 0)) i = (sd, s, t)) → (z2.2.2.2.2.2.2.2.1 = sd) → (g45 28 = some (rB x (-1) c z2)) → (∀ i, i ≠ 28 → g45 i = h i) → Av X l mX10_lots 45 [some (aR 28 0), some (aI (nI (k_n))), some (aI (z0)), some (aI (v)), none, some (aI (s)), some (aI (t)), some (aI (nI (i))), none, none] [] g45 (QI (fun vr h2 => (rV (wLots (nI k_n) v) (aLots x (nI k_n) z0 v)) = vr ∧ ∃ (z1 : RZ), h2 (28) = some (rB x (-1) (rS (wLots (nI k_n) v) c.1, c.2) z1) ∧ ∀ i, i ≠ 28 → h2 i = h i)) := by
      intro nq
      induction nq using Nat.strongRecOn with
      | _ nq ih =>
      intro i sd s t g45 z2 en ee hy O28 hf
      refine A_iload 47 dX10_lots_45 rfl rfl ?_
      refine A_iload_n 48 dX10_lots_47 rfl rfl rfl ?_
      refine A_icmp_ge 131 51 dX10_lots_48 (by decide) rfl (fun c48 => ?_) (fun c48 => ?_)
      · skip
        obtain rfl := (up_ge_T (N := k_n) c48 rfl (by omega) (by omega)).symm
        refine A_iload_n 132 dX10_lots_131 rfl rfl rfl ?_
        refine A_if_ne 140 135 dX10_lots_132 (by decide) rfl (fun c132 => ?_) (fun c132 => ?_)
        · skip
          try simp only [bI_0, bI_n0, Classical.not_not, Bool.not_eq_false, Bool.true_and, Bool.and_true, decide_eq_true_eq, decide_eq_false_iff_not, dayC_1, dayC_21, dayC_221, dayC_222, inI_1, inI_2, inI_3, inI_5, inI_11, inI_16] at c132
          refine A_iload 142 dX10_lots_140 rfl rfl ?_
          refine A_iret dX10_lots_142 rfl ⟨_, rfl, (by rw [hw0, rV_0]; unfold aLots; rw [cl_n, ee]; first | rw [if_pos c132] | rw [if_neg c132]), _, (by rw [hw0, rS_0]; exact O28), hf⟩
        · skip
          try simp only [bI_0, bI_n0, Classical.not_not, Bool.not_eq_false, Bool.true_and, Bool.and_true, decide_eq_true_eq, decide_eq_false_iff_not, dayC_1, dayC_21, dayC_221, dayC_222, inI_1, inI_2, inI_3, inI_5, inI_11, inI_16] at c132
          refine A_iload 137 dX10_lots_135 rfl rfl ?_
          refine A_goto 142 dX10_lots_137 (by decide) ?_
          refine A_iret dX10_lots_142 rfl ⟨_, rfl, (by rw [hw0, rV_0]; unfold aLots; rw [cl_n, ee]; first | rw [if_pos c132] | rw [if_neg c132]), _, (by rw [hw0, rS_0]; exact O28), hf⟩
      · skip
        have hi := up_ge_F (N := k_n) c48 rfl (by omega) (by omega)
        obtain ⟨n0, rfl⟩ : ∃ q, nq = q + 1 := ⟨nq - 1, by omega⟩
        refine A_iconst 52 (0) dX10_lots_51 rfl (by decide) ?_
        refine A_istore 54 dX10_lots_52 rfl (by decide) (by first | exact (ast_s (ast_s (ast_s (ast_s (ast_s (ast_s (ast_s (ast_1 rfl)))))))) | exact (ast_s (ast_s (ast_s (ast_s (ast_s (ast_s (ast_s ast_k)))))))) ?_
        have L54 : ∀ (nqb j : Nat) (sd2 s2 t2 : Int32) (g54 : Hp) (z3 : RZ), (nqb + j = x.2.2.2.1) → (foldN (ltI x) ((sd, s, t)) j = (sd2, s2, t2)) → (z3.2.2.2.2.2.2.2.1 = sd2) → (g54 28 = some (rB x (-1) c z3)) → (∀ i, i ≠ 28 → g54 i = h i) → Av X l mX10_lots 54 [some (aR 28 0), some (aI (nI (k_n))), some (aI (z0)), some (aI (v)), none, some (aI (s2)), some (aI (t2)), some (aI (nI (i))), some (aI (nI (j))), none] [] g54 (QI (fun vr h2 => (rV (wLots (nI k_n) v) (aLots x (nI k_n) z0 v)) = vr ∧ ∃ (z1 : RZ), h2 (28) = some (rB x (-1) (rS (wLots (nI k_n) v) c.1, c.2) z1) ∧ ∀ i, i ≠ 28 → h2 i = h i)) := by
          intro nqb
          induction nqb using Nat.strongRecOn with
          | _ nqb ihb =>
          intro j sd2 s2 t2 g54 z3 enb eeb hyb O28 hf
          refine A_iload 56 dX10_lots_54 rfl rfl ?_
          refine A_aload_n 57 dX10_lots_56 rfl rfl rfl ?_
          refine A_getfield 60 dX10_lots_57 rfl f_X10_81 O28 rfl ?_
          try dsimp only
          refine A_icmp_ge 125 63 dX10_lots_60 (by decide) rfl (fun c60 => ?_) (fun c60 => ?_)
          · skip
            obtain rfl := (up_ge_T (N := x.2.2.2.1) c60 rfl (by omega) (by omega)).symm
            first | refine A_iincN 128 dX10_lots_125 rfl rfl (by decide) (by first | exact (ast_s (ast_s (ast_s (ast_s (ast_s (ast_s (ast_1 rfl))))))) | exact (ast_s (ast_s (ast_s (ast_s (ast_s (ast_s ast_k))))))) ?_ | refine A_iinc 128 (1) dX10_lots_125 rfl rfl (by decide) (by decide) (by first | exact (ast_s (ast_s (ast_s (ast_s (ast_s (ast_s (ast_1 rfl))))))) | exact (ast_s (ast_s (ast_s (ast_s (ast_s (ast_s ast_k))))))) ?_
            refine A_goto 45 dX10_lots_128 (by decide) ?_
            exact A_weak (ih n0 (Nat.lt_succ_self n0) (i + 1) _ _ _ g54 _ (by omega) ((foldN_s (ltO x) ((z0, 0, 0)) i).trans ((congrArg ((ltO x) i) ee).trans (by exact eeb))) (hyb) O28 hf) (sub_s (sub_s (sub_s (sub_s (sub_n (sub_s (sub_s (sub_s (sub_n (sub_n sub_nil))))))))))
          · skip
            have hib := up_ge_F (N := x.2.2.2.1) c60 rfl (by omega) (by omega)
            obtain ⟨n0b, rfl⟩ : ∃ q, nqb = q + 1 := ⟨nqb - 1, by omega⟩
            refine A_aload_n 64 dX10_lots_63 rfl rfl rfl ?_
            refine A_bipush 66 (8) dX10_lots_64 rfl (by decide) ?_
            refine A_callVI 69 (S_X10_drawBelow X l (by first | assumption | decide | omega | exact Ne.symm (by assumption))) dX10_lots_66 rfl kX10_drawBelow lk_X10_283 rfl O28 (by decide) rfl (Nat.le_of_ble_eq_true rfl) (fun v_5 h_5 qh_5 => ?_)
            obtain ⟨rfl, n0h_5, eh_5⟩ := qh_5
            replace O28 := n0h_5
            replace hf : ∀ i, i ≠ 28 → h_5 i = h i := fun i g0 => (eh_5 i g0).trans (hf i g0)
            rw [hyb]
            refine A_istore 71 dX10_lots_69 rfl (by decide) (by first | exact (ast_s (ast_s (ast_s (ast_s (ast_s (ast_s (ast_s (ast_s (ast_1 rfl))))))))) | exact (ast_s (ast_s (ast_s (ast_s (ast_s (ast_s (ast_s (ast_s ast_k))))))))) ?_
            refine A_iload 73 dX10_lots_71 rfl rfl ?_
            refine A_aload_n 74 dX10_lots_73 rfl rfl rfl ?_
            refine A_getfield 77 dX10_lots_74 rfl f_X10_22 O28 rfl ?_
            refine A_iload 79 dX10_lots_77 rfl rfl ?_
            refine A_iaload 80 dX10_lots_79 rfl O28 rfl (by first | assumption | exact ix_nI (by omega) (by decide) | exact ix_lit _ rfl (by omega) (by decide) | exact ix_lit _ rfl (by decide) (by decide)) ?_
            try dsimp only
            refine A_iload 82 dX10_lots_80 rfl rfl ?_
            refine A_callSI 85 (S_X10_hasBit X l) dX10_lots_82 rfl kX10_hasBit lk_X10_93 rfl (by decide) rfl (Nat.le_of_ble_eq_true rfl) (fun v_6 h_6 qh_6 => ?_)
            obtain ⟨rfl, rfl⟩ := qh_6
            refine A_if_eq 92 88 dX10_lots_85 (by decide) rfl (fun c85 => ?_) (fun c85 => ?_)
            · skip
              try simp only [bI_0, bI_n0, Classical.not_not, Bool.not_eq_false, Bool.true_and, Bool.and_true, decide_eq_true_eq, decide_eq_false_iff_not, dayC_1, dayC_21, dayC_221, dayC_222, inI_1, inI_2, inI_3, inI_5, inI_11, inI_16] at c85
              refine A_iconst 93 (0) dX10_lots_92 rfl (by decide) ?_
              refine A_iadd 94 dX10_lots_93 rfl ?_
              refine A_istore 96 dX10_lots_94 rfl (by decide) (by first | exact (ast_s (ast_s (ast_s (ast_s (ast_s (ast_1 rfl)))))) | exact (ast_s (ast_s (ast_s (ast_s (ast_s ast_k)))))) ?_
              refine A_iload 98 dX10_lots_96 rfl rfl ?_
              refine A_aload_n 99 dX10_lots_98 rfl rfl rfl ?_
              refine A_aload_n 100 dX10_lots_99 rfl rfl rfl ?_
              refine A_getfield 103 dX10_lots_100 rfl f_X10_22 O28 rfl ?_
              refine A_iload 105 dX10_lots_103 rfl rfl ?_
              refine A_iaload 106 dX10_lots_105 rfl O28 rfl (by first | assumption | exact ix_nI (by omega) (by decide) | exact ix_lit _ rfl (by omega) (by decide) | exact ix_lit _ rfl (by decide) (by decide)) ?_
              try dsimp only
              refine A_iconst 107 (1) dX10_lots_106 rfl (by decide) ?_
              refine A_iload 109 dX10_lots_107 rfl rfl ?_
              refine A_ishl 110 dX10_lots_109 rfl ?_
              rw [zT_tb]
              refine A_iconst 111 (-1) dX10_lots_110 rfl (by decide) ?_
              refine A_ixor 112 dX10_lots_111 rfl ?_
              refine A_iand 113 dX10_lots_112 rfl ?_
              refine A_callVI 116 (S_X10_manyBy_n X l (by first | assumption | decide | omega | exact Ne.symm (by assumption)) (by first | assumption | decide | omega | exact Ne.symm (by assumption))) dX10_lots_113 rfl kX10_manyBy lk_X10_233 rfl O28 (by decide) rfl (Nat.le_of_ble_eq_true rfl) (fun v_7 h_7 qh_7 => ?_)
              obtain ⟨rfl, n0h_7, eh_7⟩ := qh_7
              replace O28 := n0h_7
              replace hf : ∀ i, i ≠ 28 → h_7 i = h i := fun i g0 => (eh_7 i g0).trans (hf i g0)
              refine A_iadd 117 dX10_lots_116 rfl ?_
              refine A_istore 119 dX10_lots_117 rfl (by decide) (by first | exact (ast_s (ast_s (ast_s (ast_s (ast_1 rfl))))) | exact (ast_s (ast_s (ast_s (ast_s ast_k))))) ?_
              first | refine A_iincN 122 dX10_lots_119 rfl rfl (by decide) (by first | exact (ast_s (ast_s (ast_s (ast_s (ast_s (ast_s (ast_s (ast_1 rfl)))))))) | exact (ast_s (ast_s (ast_s (ast_s (ast_s (ast_s (ast_s ast_k)))))))) ?_ | refine A_iinc 122 (1) dX10_lots_119 rfl rfl (by decide) (by decide) (by first | exact (ast_s (ast_s (ast_s (ast_s (ast_s (ast_s (ast_s (ast_1 rfl)))))))) | exact (ast_s (ast_s (ast_s (ast_s (ast_s (ast_s (ast_s ast_k)))))))) ?_
              refine A_goto 54 dX10_lots_122 (by decide) ?_
              exact A_weak (ihb n0b (Nat.lt_succ_self n0b) (j + 1) (zN sd2) _ _ h_7 _ (by omega) ((foldN_s (ltI x) ((sd, s, t)) j).trans ((congrArg ((ltI x) j) eeb).trans (by first | with_reducible rfl | (simp only [c21, n21, cl_n, c85, if_true, if_false, ite_true, ite_false, and_true, true_and, and_false, false_and, and_self, or_true, true_or, or_false, false_or, or_self, not_true_eq_false, not_false_eq_true, decide_true, decide_false, Bool.and_true, Bool.true_and, Bool.and_false, Bool.false_and, Bool.and_self, Bool.or_true, Bool.true_or, Bool.or_false, Bool.false_or, Bool.not_true, Bool.not_false, cond_true, cond_false, bI_t, bI_f, Bool.false_eq_true, Bool.true_eq_false, dayC_1, dayC_21, dayC_221, dayC_222, ltI, zT_T, Int32.add_zero]; done) | (simp [*, ltI, zT_T, Int32.add_zero]; done) | with_reducible_and_instances rfl))) (by show zN _ = _; rw [hyb]) O28 hf) (sub_s (sub_s (sub_s (sub_s (sub_n (sub_s (sub_s (sub_s (sub_s (sub_n sub_nil))))))))))
            · skip
              try simp only [bI_0, bI_n0, Classical.not_not, Bool.not_eq_false, Bool.true_and, Bool.and_true, decide_eq_true_eq, decide_eq_false_iff_not, dayC_1, dayC_21, dayC_221, dayC_222, inI_1, inI_2, inI_3, inI_5, inI_11, inI_16] at c85
              refine A_iconst 89 (1) dX10_lots_88 rfl (by decide) ?_
              refine A_goto 93 dX10_lots_89 (by decide) ?_
              refine A_iadd 94 dX10_lots_93 rfl ?_
              refine A_istore 96 dX10_lots_94 rfl (by decide) (by first | exact (ast_s (ast_s (ast_s (ast_s (ast_s (ast_1 rfl)))))) | exact (ast_s (ast_s (ast_s (ast_s (ast_s ast_k)))))) ?_
              refine A_iload 98 dX10_lots_96 rfl rfl ?_
              refine A_aload_n 99 dX10_lots_98 rfl rfl rfl ?_
              refine A_aload_n 100 dX10_lots_99 rfl rfl rfl ?_
              refine A_getfield 103 dX10_lots_100 rfl f_X10_22 O28 rfl ?_
              refine A_iload 105 dX10_lots_103 rfl rfl ?_
              refine A_iaload 106 dX10_lots_105 rfl O28 rfl (by first | assumption | exact ix_nI (by omega) (by decide) | exact ix_lit _ rfl (by omega) (by decide) | exact ix_lit _ rfl (by decide) (by decide)) ?_
              try dsimp only
              refine A_iconst 107 (1) dX10_lots_106 rfl (by decide) ?_
              refine A_iload 109 dX10_lots_107 rfl rfl ?_
              refine A_ishl 110 dX10_lots_109 rfl ?_
              rw [zT_tb]
              refine A_iconst 111 (-1) dX10_lots_110 rfl (by decide) ?_
              refine A_ixor 112 dX10_lots_111 rfl ?_
              refine A_iand 113 dX10_lots_112 rfl ?_
              refine A_callVI 116 (S_X10_manyBy_n X l (by first | assumption | decide | omega | exact Ne.symm (by assumption)) (by first | assumption | decide | omega | exact Ne.symm (by assumption))) dX10_lots_113 rfl kX10_manyBy lk_X10_233 rfl O28 (by decide) rfl (Nat.le_of_ble_eq_true rfl) (fun v_8 h_8 qh_8 => ?_)
              obtain ⟨rfl, n0h_8, eh_8⟩ := qh_8
              replace O28 := n0h_8
              replace hf : ∀ i, i ≠ 28 → h_8 i = h i := fun i g0 => (eh_8 i g0).trans (hf i g0)
              refine A_iadd 117 dX10_lots_116 rfl ?_
              refine A_istore 119 dX10_lots_117 rfl (by decide) (by first | exact (ast_s (ast_s (ast_s (ast_s (ast_1 rfl))))) | exact (ast_s (ast_s (ast_s (ast_s ast_k))))) ?_
              first | refine A_iincN 122 dX10_lots_119 rfl rfl (by decide) (by first | exact (ast_s (ast_s (ast_s (ast_s (ast_s (ast_s (ast_s (ast_1 rfl)))))))) | exact (ast_s (ast_s (ast_s (ast_s (ast_s (ast_s (ast_s ast_k)))))))) ?_ | refine A_iinc 122 (1) dX10_lots_119 rfl rfl (by decide) (by decide) (by first | exact (ast_s (ast_s (ast_s (ast_s (ast_s (ast_s (ast_s (ast_1 rfl)))))))) | exact (ast_s (ast_s (ast_s (ast_s (ast_s (ast_s (ast_s ast_k)))))))) ?_
              refine A_goto 54 dX10_lots_122 (by decide) ?_
              exact A_weak (ihb n0b (Nat.lt_succ_self n0b) (j + 1) (zN sd2) _ _ h_8 _ (by omega) ((foldN_s (ltI x) ((sd, s, t)) j).trans ((congrArg ((ltI x) j) eeb).trans (by first | with_reducible rfl | (simp only [c21, n21, cl_n, c85, if_true, if_false, ite_true, ite_false, and_true, true_and, and_false, false_and, and_self, or_true, true_or, or_false, false_or, or_self, not_true_eq_false, not_false_eq_true, decide_true, decide_false, Bool.and_true, Bool.true_and, Bool.and_false, Bool.false_and, Bool.and_self, Bool.or_true, Bool.true_or, Bool.or_false, Bool.false_or, Bool.not_true, Bool.not_false, cond_true, cond_false, bI_t, bI_f, Bool.false_eq_true, Bool.true_eq_false, dayC_1, dayC_21, dayC_221, dayC_222, ltI, zT_T, Int32.add_zero]; done) | (simp [*, ltI, zT_T, Int32.add_zero]; done) | with_reducible_and_instances rfl))) (by show zN _ = _; rw [hyb]) O28 hf) (sub_s (sub_s (sub_s (sub_s (sub_n (sub_s (sub_s (sub_s (sub_s (sub_n sub_nil))))))))))
        exact A_weak (L54 (x.2.2.2.1) (0) (_) (_) (_) g45 (_) (by omega) (rfl) (hy) O28 hf) (sub_s (sub_s (sub_s (sub_s (sub_n (sub_s (sub_s (sub_s (sub_s (sub_n sub_nil))))))))))
    exact A_weak (L45 (k_n) (0) (_) (_) (_) h_4 (_) (by omega) (rfl) (rfl) O28 hf) (sub_s (sub_s (sub_s (sub_s (sub_n (sub_s (sub_s (sub_s (sub_n (sub_n sub_nil))))))))))
  · skip
    try simp only [bI_0, bI_n0, Classical.not_not, Bool.not_eq_false, Bool.true_and, Bool.and_true, decide_eq_true_eq, decide_eq_false_iff_not, dayC_1, dayC_21, dayC_221, dayC_222, inI_1, inI_2, inI_3, inI_5, inI_11, inI_16] at c21
    have n21 := c21
    replace c21 := Int32.not_le.mp c21
    have hcd : CD (wLots n v) := cz_neg wLots_cz c21
    refine A_aload_n 25 dX10_lots_24 rfl rfl rfl ?_
    refine A_iload 27 dX10_lots_25 rfl rfl ?_
    refine A_callVI 30 (S_X10_refuse_c X l (by first | assumption | decide | omega | exact Ne.symm (by assumption)) (by first | assumption | (unfold CD; decide))) dX10_lots_27 rfl kX10_refuse lk_X10_121 rfl O28 (by decide) rfl (Nat.le_of_ble_eq_true rfl) (fun v_9 h_9 qh_9 => ?_)
    obtain ⟨rfl, n0h_9, eh_9⟩ := qh_9
    replace O28 := n0h_9
    replace hf : ∀ i, i ≠ 28 → h_9 i = h i := fun i g0 => (eh_9 i g0).trans (hf i g0)
    refine A_iret dX10_lots_30 rfl ⟨_, rfl, (by exact rV_n hcd.ne), _, O28, hf⟩
