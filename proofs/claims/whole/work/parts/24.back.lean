/-! what can be taken back: the rows of the reference against worlds, oldest first -/
def TRs (T : FI) (k : Nat) (W : Nat → PW) : Prop := ∀ j, j < k → ∀ i, i < 50 → T (50 * j + i) = enc (W j) i
def kpW (k : Nat) (W : Nat → PW) (x : PW) : Nat → PW := fun j => if k = 8 then (if j < 7 then W (j + 1) else x) else (if j = k then x else W j)
theorem TRs_8 {T T2 : FI} {W : Nat → PW} {x : PW} (h : TRs T 8 W) (h1 : ∀ j, j < 350 → T2 j = T (j + 50)) (h2 : ∀ k, k < 50 → T2 (350 + k) = enc x k) : TRs T2 8 (kpW 8 W x) := by
  intro j hj i hi
  unfold kpW
  rw [if_pos rfl]
  by_cases e : j < 7
  · rw [if_pos e, h1 _ (by omega), show 50 * j + i + 50 = 50 * (j + 1) + i by omega]
    exact h (j + 1) (by omega) i hi
  · rw [if_neg e, show 50 * j + i = 350 + i by omega]
    exact h2 i hi
theorem TRs_l {T T2 : FI} {k : Nat} {W : Nat → PW} {x : PW} (hk : k < 8) (h : TRs T k W) (h1 : ∀ j, j < 50 * k → T2 j = T j) (h2 : ∀ i, i < 50 → T2 (50 * k + i) = enc x i) : TRs T2 (k + 1) (kpW k W x) := by
  intro j hj i hi
  unfold kpW
  rw [if_neg (by omega)]
  by_cases e : j = k
  · rw [if_pos e, e]
    exact h2 i hi
  · rw [if_neg e, h1 _ (by omega)]
    exact h j (by omega) i hi
theorem n50 (k i : Nat) : 50 * nI k + nI i = nI (50 * k + i) := by rw [nadd, nmul]; rfl
theorem nI_sub50 (i : Nat) : nI (50 + i) - 50 = nI i := by
  rw [nadd, Int32.add_comm]
  exact Int32.add_sub_cancel _ _
theorem moP_8 : moP 8 = 8 := rfl
theorem moP_l {k : Nat} (h : k < 8) : moP k = k + 1 := if_pos h
theorem Ct.weak {X : En} {l : Launch} {M : MI} {args : List AV} {h : Hp} {Q Q' : Option AV → Hp → Prop} (k : Ct X l M args h Q) (hQ : ∀ r h', Q r h' → Q' r h') : Ct X l M args h Q' := by
  intro p e ha hf hc s m a b h1 h2 h3 h4
  obtain ⟨n, o, q1, q2, q3, ⟨⟨r, h', q4, q5, q6⟩, q7⟩, q8⟩ := k p e ha hf hc s m a b h1 h2 h3 h4
  exact ⟨n, o, q1, q2, q3, ⟨⟨r, h', q4, hQ r h' q5, q6⟩, q7⟩, q8⟩
set_option maxHeartbeats 4000000 in
set_option maxRecDepth 100000 in
theorem S_X10_image (X : En) (l : Launch) {h : Hp} {x : PW} {nv : Int32} {cr cl : FI} {cn : Nat} {im : FI} {hi : Int32} {T : FI} {tn : Nat} {cw : FI × Nat} {z : RZ} (O28 : h 28 = some (rB x nv (cr, cl, cn, im, hi, T, tn, cw) z)) : Ct X l mX10_image [aR 28 0] h (QI (fun vr h2 => (x.2.2.2.2.2) = vr ∧ ∃ (z1 : RZ), h2 (28) = some (rB x nv (cr, cl, cn, enc x, 1, T, tn, cw) z1) ∧ ∀ i, i ≠ 28 → h2 i = h i)) := by
  have hf : ∀ i, i ≠ 28 → h i = h i := fun _ _ => rfl
  refine Ct.intro [some (aR 28 0)] (by decide +kernel) rfl (Nat.le_of_ble_eq_true rfl) ?_
  refine A_aload_n 1 dX10_image_0 rfl rfl rfl ?_
  refine A_iconst 2 (0) dX10_image_1 rfl (by decide) ?_
  refine P_X10_9 5 dX10_image_2 rfl fw_X10_78 O28 (fun h_1 nh_1 eh_1 => ?_)
  replace O28 := nh_1
  replace hf : ∀ i, i ≠ 28 → h_1 i = h i := fun i g0 => (eh_1 i g0).trans (hf i g0)
  try dsimp only at O28
  refine A_aload_n 6 dX10_image_5 rfl rfl rfl ?_
  refine A_iconst 7 (1) dX10_image_6 rfl (by decide) ?_
  refine P_X10_24 10 dX10_image_7 rfl fw_X10_203 O28 (by first | with_reducible exact bI01 _ | with_reducible exact Or.inl rfl | with_reducible exact Or.inr rfl | assumption) (fun h_2 nh_2 eh_2 => ?_)
  replace O28 := nh_2
  replace hf : ∀ i, i ≠ 28 → h_2 i = h i := fun i g0 => (eh_2 i g0).trans (hf i g0)
  try dsimp only at O28
  refine A_aload_n 11 dX10_image_10 rfl rfl rfl ?_
  refine A_aload_n 12 dX10_image_11 rfl rfl rfl ?_
  refine A_getfield 15 dX10_image_12 rfl f_X10_53 O28 rfl ?_
  refine A_iconst 16 (1) dX10_image_15 rfl (by decide) ?_
  refine A_callVV 19 (S_X10_carryAll_i1 X l (by first | assumption | decide | omega | exact Ne.symm (by assumption))) dX10_image_16 rfl kX10_carryAll lk_X10_199 rfl O28 (by decide) rfl (Nat.le_of_ble_eq_true rfl) (fun h_3 qh_3 => ?_)
  obtain ⟨n0h_3, eh_3⟩ := qh_3
  replace O28 := n0h_3
  replace hf : ∀ i, i ≠ 28 → h_3 i = h i := fun i g0 => (eh_3 i g0).trans (hf i g0)
  refine A_aload_n 20 dX10_image_19 rfl rfl rfl ?_
  refine A_getfield 23 dX10_image_20 rfl f_X10_118 O28 rfl ?_
  try dsimp only
  refine A_iret dX10_image_23 rfl ⟨_, rfl, (by first | with_reducible rfl | (simp only [if_true, if_false, ite_true, ite_false, and_true, true_and, and_false, false_and, and_self, or_true, true_or, or_false, false_or, or_self, not_true_eq_false, not_false_eq_true, decide_true, decide_false, Bool.and_true, Bool.true_and, Bool.and_false, Bool.false_and, Bool.and_self, Bool.or_true, Bool.true_or, Bool.or_false, Bool.false_or, Bool.not_true, Bool.not_false, cond_true, cond_false, bI_t, bI_f, Bool.false_eq_true, Bool.true_eq_false, dayC_1, dayC_21, dayC_221, dayC_222]; done) | (simp only [*]; done) | (simp [bI, *]; done) | with_reducible_and_instances rfl), _, O28, hf⟩
set_option maxHeartbeats 4000000 in
set_option maxRecDepth 100000 in
theorem S_X10_restore (X : En) (l : Launch) {h : Hp} {x : PW} {nv : Int32} {cr cl : FI} {cn : Nat} {im : FI} {hi : Int32} {T : FI} {tn : Nat} {cw : FI × Nat} {z : RZ} (O28 : h 28 = some (rB x nv (cr, cl, cn, im, hi, T, tn, cw) z)) {y : PW} (hk : ¬ hi = 0 → ∀ j, j < 50 → im j = enc y j) : Ct X l mX10_restore [aR 28 0] h (QI (fun vr h2 => (rV (wRest hi) y.2.2.2.2.2) = vr ∧ ∃ (z1 : RZ), h2 (28) = some (rB (ifW (wRest hi) y x) nv (rS (wRest hi) cr, cl, cn, im, hi, T, ifW (wRest hi) 0 tn, cw) z1) ∧ ∀ i, i ≠ 28 → h2 i = h i)) := by
  have hf : ∀ i, i ≠ 28 → h i = h i := fun _ _ => rfl
  refine Ct.intro [some (aR 28 0)] (by decide +kernel) rfl (Nat.le_of_ble_eq_true rfl) ?_
  refine A_aload_n 1 dX10_restore_0 rfl rfl rfl ?_
  refine A_iconst 2 (0) dX10_restore_1 rfl (by decide) ?_
  refine P_X10_9 5 dX10_restore_2 rfl fw_X10_78 O28 (fun h_1 nh_1 eh_1 => ?_)
  replace O28 := nh_1
  replace hf : ∀ i, i ≠ 28 → h_1 i = h i := fun i g0 => (eh_1 i g0).trans (hf i g0)
  try dsimp only at O28
  refine A_aload_n 6 dX10_restore_5 rfl rfl rfl ?_
  refine A_getfield 9 dX10_restore_6 rfl f_X10_203 O28 rfl ?_
  try dsimp only
  refine A_if_ne 19 12 dX10_restore_9 (by decide) rfl (fun c9 => ?_) (fun c9 => ?_)
  · skip
    try simp only [bI_0, bI_n0, Classical.not_not, Bool.not_eq_false, Bool.true_and, Bool.and_true, decide_eq_true_eq, decide_eq_false_iff_not, dayC_1, dayC_21, dayC_221, dayC_222] at c9
    refine A_aload_n 20 dX10_restore_19 rfl rfl rfl ?_
    refine A_aload_n 21 dX10_restore_20 rfl rfl rfl ?_
    refine A_getfield 24 dX10_restore_21 rfl f_X10_53 O28 rfl ?_
    refine A_iconst 25 (0) dX10_restore_24 rfl (by decide) ?_
    refine A_callVV 28 (S_X10_carryAll_i0 X l O28 (y := y) (hk c9)) dX10_restore_25 rfl kX10_carryAll lk_X10_199 rfl O28 (by decide) rfl (Nat.le_of_ble_eq_true rfl) (fun h_2 qh_2 => ?_)
    obtain ⟨n0h_2, eh_2⟩ := qh_2
    replace O28 := n0h_2
    replace hf : ∀ i, i ≠ 28 → h_2 i = h i := fun i g0 => (eh_2 i g0).trans (hf i g0)
    refine A_aload_n 29 dX10_restore_28 rfl rfl rfl ?_
    refine A_iconst 30 (0) dX10_restore_29 rfl (by decide) ?_
    refine P_X10_30 33 dX10_restore_30 rfl fw_X10_184 O28 (fun h_3 nh_3 eh_3 => ?_)
    replace O28 := nh_3
    replace hf : ∀ i, i ≠ 28 → h_3 i = h i := fun i g0 => (eh_3 i g0).trans (hf i g0)
    try dsimp only at O28
    refine A_aload_n 34 dX10_restore_33 rfl rfl rfl ?_
    refine A_getfield 37 dX10_restore_34 rfl f_X10_118 O28 rfl ?_
    try dsimp only
    have ew : wRest hi = 0 := if_neg c9
    refine A_iret dX10_restore_37 rfl ⟨_, rfl, (by rw [ew, rV_0]), _, (by rw [ew]; simp only [ifW_0, ifW_3]; first | (rw [rS_0]; exact O28) | exact O28), hf⟩
  · skip
    try simp only [bI_0, bI_n0, Classical.not_not, Bool.not_eq_false, Bool.true_and, Bool.and_true, decide_eq_true_eq, decide_eq_false_iff_not, dayC_1, dayC_21, dayC_221, dayC_222] at c9
    refine A_aload_n 13 dX10_restore_12 rfl rfl rfl ?_
    refine A_bipush 15 (-3) dX10_restore_13 rfl (by decide) ?_
    refine A_callVI 18 (S_X10_refuse_c X l (by first | assumption | decide | omega | exact Ne.symm (by assumption)) (by first | assumption | (unfold CD; decide))) dX10_restore_15 rfl kX10_refuse lk_X10_121 rfl O28 (by decide) rfl (Nat.le_of_ble_eq_true rfl) (fun v_4 h_4 qh_4 => ?_)
    obtain ⟨rfl, n0h_4, eh_4⟩ := qh_4
    replace O28 := n0h_4
    replace hf : ∀ i, i ≠ 28 → h_4 i = h i := fun i g0 => (eh_4 i g0).trans (hf i g0)
    have ew : wRest hi = -3 := if_pos c9
    refine A_iret dX10_restore_18 rfl ⟨_, rfl, (by rw [ew]; exact rV_n (by decide)), _, (by rw [ew]; simp only [ifW_0, ifW_3]; first | (rw [rS_0]; exact O28) | exact O28), hf⟩
set_option maxHeartbeats 4000000 in
set_option maxRecDepth 100000 in
theorem S_X10_keepTurn_8 (X : En) (l : Launch) {h : Hp} {x : PW} {nv : Int32} {cr cl : FI} {cn : Nat} {im : FI} {hi : Int32} {T : FI} {cw : FI × Nat} {z : RZ} (O28 : h 28 = some (rB x nv (cr, cl, cn, im, hi, T, 8, cw) z)) : Ct X l mX10_keepTurn [aR 28 0] h (QV (fun h2 => ∃ (T3 : FI) (z1 : RZ), h2 (28) = some (rB x nv (cr, cl, cn, im, hi, T3, 8, cw) z1) ∧ ((∀ j, j < 350 → T3 j = T (j + 50)) ∧ (∀ k, k < 50 → T3 (350 + k) = enc x k)) ∧ ∀ i, i ≠ 28 → h2 i = h i)) := by
  have hf : ∀ i, i ≠ 28 → h i = h i := fun _ _ => rfl
  refine Ct.intro [some (aR 28 0), none] (by decide +kernel) rfl (Nat.le_of_ble_eq_true rfl) ?_
  refine A_aload_n 1 dX10_keepTurn_0 rfl rfl rfl ?_
  refine A_getfield 4 dX10_keepTurn_1 rfl f_X10_184 O28 rfl ?_
  try dsimp only
  refine A_bipush 6 (8) dX10_keepTurn_4 rfl (by decide) ?_
  refine A_icmp_ne 50 9 dX10_keepTurn_6 (by decide) rfl (fun c6 => ?_) (fun c6 => ?_)
  · skip
    exact absurd rfl c6
  · skip
    skip
    refine A_bipush 11 (50) dX10_keepTurn_9 rfl (by decide) ?_
    refine A_istore_n 12 dX10_keepTurn_11 rfl rfl (by decide) (by first | exact (ast_1 rfl) | exact ast_k) ?_
    have L12 : ∀ (nq i : Nat)  (g12 : Hp) (T1 : FI), (nq + i = 350) → ((∀ j, j < i → T1 j = T (j + 50)) ∧ (∀ j, i ≤ j → T1 j = T j)) → (g12 28 = some (rB x nv (cr, cl, cn, im, hi, T1, 8, cw) z)) → (∀ i, i ≠ 28 → g12 i = h i) → Av X l mX10_keepTurn 12 [some (aR 28 0), some (aI (nI (50 + i)))] [] g12 (QV (fun h2 => ∃ (T3 : FI) (z1 : RZ), h2 (28) = some (rB x nv (cr, cl, cn, im, hi, T3, 8, cw) z1) ∧ ((∀ j, j < 350 → T3 j = T (j + 50)) ∧ (∀ k, k < 50 → T3 (350 + k) = enc x k)) ∧ ∀ i, i ≠ 28 → h2 i = h i)) := by
      intro nq
      induction nq using Nat.strongRecOn with
      | _ nq ih =>
      intro i g12 T1 en hy O28 hf
      refine A_iload_n 13 dX10_keepTurn_12 rfl rfl rfl ?_
      refine A_sipush 16 (400) dX10_keepTurn_13 rfl (by decide) ?_
      refine A_icmp_ge 40 19 dX10_keepTurn_16 (by decide) rfl (fun c16 => ?_) (fun c16 => ?_)
      · skip
        have q16 := (nle_iff (a := 400) (b := 50 + i) (by decide) (by omega)).mp c16
        obtain rfl : i = 350 := by omega
        refine A_aload_n 41 dX10_keepTurn_40 rfl rfl rfl ?_
        refine A_dup 42 dX10_keepTurn_41 rfl rfl ?_
        refine A_getfield 45 dX10_keepTurn_42 rfl f_X10_184 O28 rfl ?_
        try dsimp only
        refine A_iconst 46 (1) dX10_keepTurn_45 rfl (by decide) ?_
        refine A_isub 47 dX10_keepTurn_46 rfl ?_
        rw [show nI 8 - 1 = nI 7 from rfl]
        refine P_X10_30 50 dX10_keepTurn_47 rfl fw_X10_184 O28 (fun h_1 nh_1 eh_1 => ?_)
        replace O28 := nh_1
        replace hf : ∀ i, i ≠ 28 → h_1 i = h i := fun i g0 => (eh_1 i g0).trans (hf i g0)
        try dsimp only at O28
        refine A_aload_n 51 dX10_keepTurn_50 rfl rfl rfl ?_
        refine A_aload_n 52 dX10_keepTurn_51 rfl rfl rfl ?_
        refine A_getfield 55 dX10_keepTurn_52 rfl f_X10_59 O28 rfl ?_
        refine A_iconst 56 (1) dX10_keepTurn_55 rfl (by decide) ?_
        refine A_callVV 59 (S_X10_carryAll_t1 X l (by first | assumption | decide | omega | exact Ne.symm (by assumption))) dX10_keepTurn_56 rfl kX10_carryAll lk_X10_199 rfl O28 (by decide) rfl (Nat.le_of_ble_eq_true rfl) (fun h_2 qh_2 => ?_)
        obtain ⟨n0h_2, eh_2⟩ := qh_2
        replace O28 := n0h_2
        replace hf : ∀ i, i ≠ 28 → h_2 i = h i := fun i g0 => (eh_2 i g0).trans (hf i g0)
        refine A_iconst 60 (0) dX10_keepTurn_59 rfl (by decide) ?_
        refine A_istore_n 61 dX10_keepTurn_60 rfl rfl (by decide) (by first | exact (ast_1 rfl) | exact ast_k) ?_
        have L61 : ∀ (nqb i : Nat)  (g61 : Hp) (T2 : FI) (z2 : RZ), (nqb + i = 50) → ((∀ j, j < 50 * 7 → T2 j = T1 j) ∧ (∀ j, j < i → T2 (50 * 7 + j) = enc x j) ∧ (∀ j, j < 50 → z2.2.2.1.2.1 j = enc x j)) → (g61 28 = some (rB x nv (cr, cl, cn, im, hi, T2, 7, cw) z2)) → (∀ i, i ≠ 28 → g61 i = h i) → Av X l mX10_keepTurn 61 [some (aR 28 0), some (aI (nI (i)))] [] g61 (QV (fun h2 => ∃ (T3 : FI) (z1 : RZ), h2 (28) = some (rB x nv (cr, cl, cn, im, hi, T3, 8, cw) z1) ∧ ((∀ j, j < 350 → T3 j = T (j + 50)) ∧ (∀ k, k < 50 → T3 (350 + k) = enc x k)) ∧ ∀ i, i ≠ 28 → h2 i = h i)) := by
          intro nqb
          induction nqb using Nat.strongRecOn with
          | _ nqb ihb =>
          intro i g61 T2 z2 enb hyb O28 hf
          refine A_iload_n 62 dX10_keepTurn_61 rfl rfl rfl ?_
          refine A_bipush 64 (50) dX10_keepTurn_62 rfl (by decide) ?_
          refine A_icmp_ge 93 67 dX10_keepTurn_64 (by decide) rfl (fun c64 => ?_) (fun c64 => ?_)
          · skip
            obtain rfl := (up_ge_T (N := 50) c64 rfl (by omega) (by omega)).symm
            refine A_aload_n 94 dX10_keepTurn_93 rfl rfl rfl ?_
            refine A_dup 95 dX10_keepTurn_94 rfl rfl ?_
            refine A_getfield 98 dX10_keepTurn_95 rfl f_X10_184 O28 rfl ?_
            try dsimp only
            refine A_iconst 99 (1) dX10_keepTurn_98 rfl (by decide) ?_
            refine A_iadd 100 dX10_keepTurn_99 rfl ?_
            rw [show nI 7 + 1 = nI 8 from rfl]
            refine P_X10_30 103 dX10_keepTurn_100 rfl fw_X10_184 O28 (fun h_3 nh_3 eh_3 => ?_)
            replace O28 := nh_3
            replace hf : ∀ i, i ≠ 28 → h_3 i = h i := fun i g0 => (eh_3 i g0).trans (hf i g0)
            try dsimp only at O28
            refine A_vret dX10_keepTurn_103 rfl ⟨rfl, _, _, O28, (⟨fun j hj => (hyb.1 j hj).trans (hy.1 j hj), hyb.2.1⟩), hf⟩
          · skip
            have hib := up_ge_F (N := 50) c64 rfl (by omega) (by omega)
            obtain ⟨n0b, rfl⟩ : ∃ q, nqb = q + 1 := ⟨nqb - 1, by omega⟩
            refine A_aload_n 68 dX10_keepTurn_67 rfl rfl rfl ?_
            refine A_getfield 71 dX10_keepTurn_68 rfl f_X10_56 O28 rfl ?_
            refine A_bipush 73 (50) dX10_keepTurn_71 rfl (by decide) ?_
            refine A_aload_n 74 dX10_keepTurn_73 rfl rfl rfl ?_
            refine A_getfield 77 dX10_keepTurn_74 rfl f_X10_184 O28 rfl ?_
            try dsimp only
            refine A_imul 78 dX10_keepTurn_77 rfl ?_
            refine A_iload_n 79 dX10_keepTurn_78 rfl rfl rfl ?_
            refine A_iadd 80 dX10_keepTurn_79 rfl ?_
            rw [n50]
            refine A_aload_n 81 dX10_keepTurn_80 rfl rfl rfl ?_
            refine A_getfield 84 dX10_keepTurn_81 rfl f_X10_59 O28 rfl ?_
            refine A_iload_n 85 dX10_keepTurn_84 rfl rfl rfl ?_
            refine A_iaload 86 dX10_keepTurn_85 rfl O28 rfl (by first | assumption | exact ix_nI (by omega) (by decide) | exact ix_lit _ rfl (by omega) (by decide) | exact ix_lit _ rfl (by decide) (by decide)) ?_
            try dsimp only
            refine T_X10_14 87 dX10_keepTurn_86 rfl O28 (by first | assumption | exact ix_nI (by omega) (by decide) | exact ix_lit _ rfl (by omega) (by decide) | exact ix_lit _ rfl (by decide) (by decide)) (fun h_4 nh_4 eh_4 => ?_)
            replace O28 := nh_4
            replace hf : ∀ i, i ≠ 28 → h_4 i = h i := fun i g0 => (eh_4 i g0).trans (hf i g0)
            try dsimp only at O28
            first | refine A_iincN 90 dX10_keepTurn_87 rfl rfl (by decide) (by first | exact (ast_1 rfl) | exact ast_k) ?_ | refine A_iinc 90 (1) dX10_keepTurn_87 rfl rfl (by decide) (by decide) (by first | exact (ast_1 rfl) | exact ast_k) ?_
            refine A_goto 61 dX10_keepTurn_90 (by decide) ?_
            exact ihb n0b (Nat.lt_succ_self n0b) (i + 1)  h_4 _ _ (by omega)  (⟨fun j hj => (up_no _ _ (by omega)).trans (hyb.1 j hj), fun j hj => by unfold va_up; by_cases e : j = i; (rw [if_pos (by omega), e]; exact hyb.2.2 i (by omega)); (rw [if_neg (by omega)]; exact hyb.2.1 j (by omega)), hyb.2.2⟩) O28 hf
        exact L61 (50) (0)  h_2 (_) (_) (by omega)  (⟨fun _ _ => rfl, fun j hj => absurd hj (Nat.not_lt_zero j), fun _ _ => rfl⟩) O28 hf
      · skip
        have q16 := mt (nle_iff (a := 400) (b := 50 + i) (by decide) (by omega)).mpr c16
        obtain ⟨n0, rfl⟩ : ∃ q, nq = q + 1 := ⟨nq - 1, by omega⟩
        refine A_aload_n 20 dX10_keepTurn_19 rfl rfl rfl ?_
        refine A_getfield 23 dX10_keepTurn_20 rfl f_X10_56 O28 rfl ?_
        refine A_iload_n 24 dX10_keepTurn_23 rfl rfl rfl ?_
        refine A_bipush 26 (50) dX10_keepTurn_24 rfl (by decide) ?_
        refine A_isub 27 dX10_keepTurn_26 rfl ?_
        rw [nI_sub50]
        refine A_aload_n 28 dX10_keepTurn_27 rfl rfl rfl ?_
        refine A_getfield 31 dX10_keepTurn_28 rfl f_X10_56 O28 rfl ?_
        refine A_iload_n 32 dX10_keepTurn_31 rfl rfl rfl ?_
        refine A_iaload 33 dX10_keepTurn_32 rfl O28 rfl (by first | assumption | exact ix_nI (by omega) (by decide) | exact ix_lit _ rfl (by omega) (by decide) | exact ix_lit _ rfl (by decide) (by decide)) ?_
        try dsimp only
        refine T_X10_14 34 dX10_keepTurn_33 rfl O28 (by first | assumption | exact ix_nI (by omega) (by decide) | exact ix_lit _ rfl (by omega) (by decide) | exact ix_lit _ rfl (by decide) (by decide)) (fun h_5 nh_5 eh_5 => ?_)
        replace O28 := nh_5
        replace hf : ∀ i, i ≠ 28 → h_5 i = h i := fun i g0 => (eh_5 i g0).trans (hf i g0)
        try dsimp only at O28
        first | refine A_iincN 37 dX10_keepTurn_34 rfl rfl (by decide) (by first | exact (ast_1 rfl) | exact ast_k) ?_ | refine A_iinc 37 (1) dX10_keepTurn_34 rfl rfl (by decide) (by decide) (by first | exact (ast_1 rfl) | exact ast_k) ?_
        refine A_goto 12 dX10_keepTurn_37 (by decide) ?_
        exact ih n0 (Nat.lt_succ_self n0) (i + 1)  h_5 _ (by omega)  (⟨fun j hj => by unfold va_up; by_cases e : j = i; (rw [if_pos e, e, Nat.add_comm i 50]; exact hy.2 _ (by omega)); (rw [if_neg e]; exact hy.1 j (by omega)), fun j hj => (up_no _ _ (by omega)).trans (hy.2 j (by omega))⟩) O28 hf
    exact L12 (350) (0)  h (_) (by omega)  (⟨fun j hj => absurd hj (Nat.not_lt_zero j), fun _ _ => rfl⟩) O28 hf
set_option maxHeartbeats 4000000 in
set_option maxRecDepth 100000 in
theorem S_X10_keepTurn_l (X : En) (l : Launch) {h : Hp} {x : PW} {nv : Int32} {cr cl : FI} {cn : Nat} {im : FI} {hi : Int32} {T : FI} {tn : Nat} {cw : FI × Nat} {z : RZ} (O28 : h 28 = some (rB x nv (cr, cl, cn, im, hi, T, tn, cw) z)) (ht : tn < 8) : Ct X l mX10_keepTurn [aR 28 0] h (QV (fun h2 => ∃ (T3 : FI) (z1 : RZ), h2 (28) = some (rB x nv (cr, cl, cn, im, hi, T3, (tn + 1), cw) z1) ∧ ((∀ j, j < 50 * tn → T3 j = T j) ∧ (∀ k, k < 50 → T3 (50 * tn + k) = enc x k)) ∧ ∀ i, i ≠ 28 → h2 i = h i)) := by
  have hf : ∀ i, i ≠ 28 → h i = h i := fun _ _ => rfl
  refine Ct.intro [some (aR 28 0), none] (by decide +kernel) rfl (Nat.le_of_ble_eq_true rfl) ?_
  refine A_aload_n 1 dX10_keepTurn_0 rfl rfl rfl ?_
  refine A_getfield 4 dX10_keepTurn_1 rfl f_X10_184 O28 rfl ?_
  try dsimp only
  refine A_bipush 6 (8) dX10_keepTurn_4 rfl (by decide) ?_
  refine A_icmp_ne 50 9 dX10_keepTurn_6 (by decide) rfl (fun c6 => ?_) (fun c6 => ?_)
  · skip
    skip
    refine A_aload_n 51 dX10_keepTurn_50 rfl rfl rfl ?_
    refine A_aload_n 52 dX10_keepTurn_51 rfl rfl rfl ?_
    refine A_getfield 55 dX10_keepTurn_52 rfl f_X10_59 O28 rfl ?_
    refine A_iconst 56 (1) dX10_keepTurn_55 rfl (by decide) ?_
    refine A_callVV 59 (S_X10_carryAll_t1 X l (by first | assumption | decide | omega | exact Ne.symm (by assumption))) dX10_keepTurn_56 rfl kX10_carryAll lk_X10_199 rfl O28 (by decide) rfl (Nat.le_of_ble_eq_true rfl) (fun h_1 qh_1 => ?_)
    obtain ⟨n0h_1, eh_1⟩ := qh_1
    replace O28 := n0h_1
    replace hf : ∀ i, i ≠ 28 → h_1 i = h i := fun i g0 => (eh_1 i g0).trans (hf i g0)
    refine A_iconst 60 (0) dX10_keepTurn_59 rfl (by decide) ?_
    refine A_istore_n 61 dX10_keepTurn_60 rfl rfl (by decide) (by first | exact (ast_1 rfl) | exact ast_k) ?_
    have L61 : ∀ (nqb i : Nat)  (g61 : Hp) (T2 : FI) (z2 : RZ), (nqb + i = 50) → ((∀ j, j < 50 * tn → T2 j = T j) ∧ (∀ j, j < i → T2 (50 * tn + j) = enc x j) ∧ (∀ j, j < 50 → z2.2.2.1.2.1 j = enc x j)) → (g61 28 = some (rB x nv (cr, cl, cn, im, hi, T2, tn, cw) z2)) → (∀ i, i ≠ 28 → g61 i = h i) → Av X l mX10_keepTurn 61 [some (aR 28 0), some (aI (nI (i)))] [] g61 (QV (fun h2 => ∃ (T3 : FI) (z1 : RZ), h2 (28) = some (rB x nv (cr, cl, cn, im, hi, T3, (tn + 1), cw) z1) ∧ ((∀ j, j < 50 * tn → T3 j = T j) ∧ (∀ k, k < 50 → T3 (50 * tn + k) = enc x k)) ∧ ∀ i, i ≠ 28 → h2 i = h i)) := by
      intro nqb
      induction nqb using Nat.strongRecOn with
      | _ nqb ihb =>
      intro i g61 T2 z2 enb hyb O28 hf
      refine A_iload_n 62 dX10_keepTurn_61 rfl rfl rfl ?_
      refine A_bipush 64 (50) dX10_keepTurn_62 rfl (by decide) ?_
      refine A_icmp_ge 93 67 dX10_keepTurn_64 (by decide) rfl (fun c64 => ?_) (fun c64 => ?_)
      · skip
        obtain rfl := (up_ge_T (N := 50) c64 rfl (by omega) (by omega)).symm
        refine A_aload_n 94 dX10_keepTurn_93 rfl rfl rfl ?_
        refine A_dup 95 dX10_keepTurn_94 rfl rfl ?_
        refine A_getfield 98 dX10_keepTurn_95 rfl f_X10_184 O28 rfl ?_
        try dsimp only
        refine A_iconst 99 (1) dX10_keepTurn_98 rfl (by decide) ?_
        refine A_iadd 100 dX10_keepTurn_99 rfl ?_
        rw [n41]
        refine P_X10_30 103 dX10_keepTurn_100 rfl fw_X10_184 O28 (fun h_2 nh_2 eh_2 => ?_)
        replace O28 := nh_2
        replace hf : ∀ i, i ≠ 28 → h_2 i = h i := fun i g0 => (eh_2 i g0).trans (hf i g0)
        try dsimp only at O28
        refine A_vret dX10_keepTurn_103 rfl ⟨rfl, _, _, O28, (⟨hyb.1, hyb.2.1⟩), hf⟩
      · skip
        have hib := up_ge_F (N := 50) c64 rfl (by omega) (by omega)
        obtain ⟨n0b, rfl⟩ : ∃ q, nqb = q + 1 := ⟨nqb - 1, by omega⟩
        refine A_aload_n 68 dX10_keepTurn_67 rfl rfl rfl ?_
        refine A_getfield 71 dX10_keepTurn_68 rfl f_X10_56 O28 rfl ?_
        refine A_bipush 73 (50) dX10_keepTurn_71 rfl (by decide) ?_
        refine A_aload_n 74 dX10_keepTurn_73 rfl rfl rfl ?_
        refine A_getfield 77 dX10_keepTurn_74 rfl f_X10_184 O28 rfl ?_
        try dsimp only
        refine A_imul 78 dX10_keepTurn_77 rfl ?_
        refine A_iload_n 79 dX10_keepTurn_78 rfl rfl rfl ?_
        refine A_iadd 80 dX10_keepTurn_79 rfl ?_
        rw [n50]
        refine A_aload_n 81 dX10_keepTurn_80 rfl rfl rfl ?_
        refine A_getfield 84 dX10_keepTurn_81 rfl f_X10_59 O28 rfl ?_
        refine A_iload_n 85 dX10_keepTurn_84 rfl rfl rfl ?_
        refine A_iaload 86 dX10_keepTurn_85 rfl O28 rfl (by first | assumption | exact ix_nI (by omega) (by decide) | exact ix_lit _ rfl (by omega) (by decide) | exact ix_lit _ rfl (by decide) (by decide)) ?_
        try dsimp only
        refine T_X10_14 87 dX10_keepTurn_86 rfl O28 (by first | assumption | exact ix_nI (by omega) (by decide) | exact ix_lit _ rfl (by omega) (by decide) | exact ix_lit _ rfl (by decide) (by decide)) (fun h_3 nh_3 eh_3 => ?_)
        replace O28 := nh_3
        replace hf : ∀ i, i ≠ 28 → h_3 i = h i := fun i g0 => (eh_3 i g0).trans (hf i g0)
        try dsimp only at O28
        first | refine A_iincN 90 dX10_keepTurn_87 rfl rfl (by decide) (by first | exact (ast_1 rfl) | exact ast_k) ?_ | refine A_iinc 90 (1) dX10_keepTurn_87 rfl rfl (by decide) (by decide) (by first | exact (ast_1 rfl) | exact ast_k) ?_
        refine A_goto 61 dX10_keepTurn_90 (by decide) ?_
        exact ihb n0b (Nat.lt_succ_self n0b) (i + 1)  h_3 _ _ (by omega)  (⟨fun j hj => (up_no _ _ (by omega)).trans (hyb.1 j hj), fun j hj => by unfold va_up; by_cases e : j = i; (rw [if_pos (by omega), e]; exact hyb.2.2 i (by omega)); (rw [if_neg (by omega)]; exact hyb.2.1 j (by omega)), hyb.2.2⟩) O28 hf
    exact L61 (50) (0)  h_1 (_) (_) (by omega)  (⟨fun _ _ => rfl, fun j hj => absurd hj (Nat.not_lt_zero j), fun _ _ => rfl⟩) O28 hf
  · skip
    exact absurd ((ninj (a := tn) (b := 8) (by omega) (by decide)).mp c6) (by omega)
theorem S_X10_keepTurn (X : En) (l : Launch) {h : Hp} {x : PW} {nv : Int32} {cr cl : FI} {cn : Nat} {im : FI} {hi : Int32} {T : FI} {tn : Nat} {cw : FI × Nat} {z : RZ} (O28 : h 28 = some (rB x nv (cr, cl, cn, im, hi, T, tn, cw) z)) {W : Nat → PW} (hT : TRs T tn W) (ht : tn ≤ 8) : Ct X l mX10_keepTurn [aR 28 0] h (QV (fun h2 => ∃ (T3 : FI) (z1 : RZ), h2 (28) = some (rB x nv (cr, cl, cn, im, hi, T3, (moP tn), cw) z1) ∧ (TRs T3 (moP tn) (kpW tn W x)) ∧ ∀ i, i ≠ 28 → h2 i = h i)) := by
  by_cases e : tn = 8
  · subst e
    refine Ct.weak (S_X10_keepTurn_8 X l O28) ?_
    rintro r h2 ⟨rfl, T3, z1, a, b, d⟩
    exact ⟨rfl, T3, z1, a, TRs_8 hT b.1 b.2, d⟩
  · refine Ct.weak (S_X10_keepTurn_l X l O28 (by omega)) ?_
    rintro r h2 ⟨rfl, T3, z1, a, b, d⟩
    rw [moP_l (by omega)]
    exact ⟨rfl, T3, z1, a, TRs_l (by omega) hT b.1 b.2, d⟩
set_option maxHeartbeats 4000000 in
set_option maxRecDepth 100000 in
theorem S_X10_back_0 (X : En) (l : Launch) {h : Hp} {x : PW} {nv : Int32} {cr cl : FI} {cn : Nat} {im : FI} {hi : Int32} {T : FI} {tn : Nat} {cw : FI × Nat} {z : RZ} (O28 : h 28 = some (rB x nv (cr, cl, cn, im, hi, T, 0, cw) z)) : Ct X l mX10_back [aR 28 0] h (QI (fun vr h2 => (-3) = vr ∧ ∃ (z1 : RZ), h2 (28) = some (rB x nv (rS (-3) cr, cl, cn, im, hi, T, 0, cw) z1) ∧ ∀ i, i ≠ 28 → h2 i = h i)) := by
  have hf : ∀ i, i ≠ 28 → h i = h i := fun _ _ => rfl
  refine Ct.intro [some (aR 28 0), none] (by decide +kernel) rfl (Nat.le_of_ble_eq_true rfl) ?_
  refine A_aload_n 1 dX10_back_0 rfl rfl rfl ?_
  refine A_iconst 2 (0) dX10_back_1 rfl (by decide) ?_
  refine P_X10_9 5 dX10_back_2 rfl fw_X10_78 O28 (fun h_1 nh_1 eh_1 => ?_)
  replace O28 := nh_1
  replace hf : ∀ i, i ≠ 28 → h_1 i = h i := fun i g0 => (eh_1 i g0).trans (hf i g0)
  try dsimp only at O28
  refine A_aload_n 6 dX10_back_5 rfl rfl rfl ?_
  refine A_getfield 9 dX10_back_6 rfl f_X10_184 O28 rfl ?_
  try dsimp only
  refine A_if_ne 19 12 dX10_back_9 (by decide) rfl (fun c9 => ?_) (fun c9 => ?_)
  · skip
    exact absurd rfl c9
  · skip
    skip
    refine A_aload_n 13 dX10_back_12 rfl rfl rfl ?_
    refine A_bipush 15 (-3) dX10_back_13 rfl (by decide) ?_
    refine A_callVI 18 (S_X10_refuse_c X l (by first | assumption | decide | omega | exact Ne.symm (by assumption)) (by first | assumption | (unfold CD; decide))) dX10_back_15 rfl kX10_refuse lk_X10_121 rfl O28 (by decide) rfl (Nat.le_of_ble_eq_true rfl) (fun v_2 h_2 qh_2 => ?_)
    obtain ⟨rfl, n0h_2, eh_2⟩ := qh_2
    replace O28 := n0h_2
    replace hf : ∀ i, i ≠ 28 → h_2 i = h i := fun i g0 => (eh_2 i g0).trans (hf i g0)
    refine A_iret dX10_back_18 rfl ⟨_, rfl, (by first | with_reducible rfl | (simp only [if_true, if_false, ite_true, ite_false, and_true, true_and, and_false, false_and, and_self, or_true, true_or, or_false, false_or, or_self, not_true_eq_false, not_false_eq_true, decide_true, decide_false, Bool.and_true, Bool.true_and, Bool.and_false, Bool.false_and, Bool.and_self, Bool.or_true, Bool.true_or, Bool.or_false, Bool.false_or, Bool.not_true, Bool.not_false, cond_true, cond_false, bI_t, bI_f, Bool.false_eq_true, Bool.true_eq_false, dayC_1, dayC_21, dayC_221, dayC_222]; done) | (simp only [*]; done) | (simp [bI, *]; done) | with_reducible_and_instances rfl), _, O28, hf⟩
set_option maxHeartbeats 4000000 in
set_option maxRecDepth 100000 in
theorem S_X10_back_s (X : En) (l : Launch) {h : Hp} {x : PW} {nv : Int32} {cr cl : FI} {cn : Nat} {im : FI} {hi : Int32} {T : FI} {cw : FI × Nat} {z : RZ} {k : Nat} (O28 : h 28 = some (rB x nv (cr, cl, cn, im, hi, T, (k + 1), cw) z)) {W : Nat → PW} (hT : TRs T (k + 1) W) (hk : k < 8) : Ct X l mX10_back [aR 28 0] h (QI (fun vr h2 => (nI k) = vr ∧ ∃ (z1 : RZ), h2 (28) = some (rB (W k) nv (cr, cl, cn, im, hi, T, k, cw) z1) ∧ ∀ i, i ≠ 28 → h2 i = h i)) := by
  have hf : ∀ i, i ≠ 28 → h i = h i := fun _ _ => rfl
  refine Ct.intro [some (aR 28 0), none] (by decide +kernel) rfl (Nat.le_of_ble_eq_true rfl) ?_
  refine A_aload_n 1 dX10_back_0 rfl rfl rfl ?_
  refine A_iconst 2 (0) dX10_back_1 rfl (by decide) ?_
  refine P_X10_9 5 dX10_back_2 rfl fw_X10_78 O28 (fun h_1 nh_1 eh_1 => ?_)
  replace O28 := nh_1
  replace hf : ∀ i, i ≠ 28 → h_1 i = h i := fun i g0 => (eh_1 i g0).trans (hf i g0)
  try dsimp only at O28
  refine A_aload_n 6 dX10_back_5 rfl rfl rfl ?_
  refine A_getfield 9 dX10_back_6 rfl f_X10_184 O28 rfl ?_
  try dsimp only
  refine A_if_ne 19 12 dX10_back_9 (by decide) rfl (fun c9 => ?_) (fun c9 => ?_)
  · skip
    skip
    refine A_aload_n 20 dX10_back_19 rfl rfl rfl ?_
    refine A_dup 21 dX10_back_20 rfl rfl ?_
    refine A_getfield 24 dX10_back_21 rfl f_X10_184 O28 rfl ?_
    try dsimp only
    refine A_iconst 25 (1) dX10_back_24 rfl (by decide) ?_
    refine A_isub 26 dX10_back_25 rfl ?_
    rw [nI_pred]
    refine P_X10_30 29 dX10_back_26 rfl fw_X10_184 O28 (fun h_2 nh_2 eh_2 => ?_)
    replace O28 := nh_2
    replace hf : ∀ i, i ≠ 28 → h_2 i = h i := fun i g0 => (eh_2 i g0).trans (hf i g0)
    try dsimp only at O28
    refine A_iconst 30 (0) dX10_back_29 rfl (by decide) ?_
    refine A_istore_n 31 dX10_back_30 rfl rfl (by decide) (by first | exact (ast_1 rfl) | exact ast_k) ?_
    have L31 : ∀ (nq i : Nat)  (g31 : Hp) (z2 : RZ), (nq + i = 50) → (∀ j, j < i → z2.2.2.1.2.1 j = enc (W k) j) → (g31 28 = some (rB x nv (cr, cl, cn, im, hi, T, k, cw) z2)) → (∀ i, i ≠ 28 → g31 i = h i) → Av X l mX10_back 31 [some (aR 28 0), some (aI (nI (i)))] [] g31 (QI (fun vr h2 => (nI k) = vr ∧ ∃ (z1 : RZ), h2 (28) = some (rB (W k) nv (cr, cl, cn, im, hi, T, k, cw) z1) ∧ ∀ i, i ≠ 28 → h2 i = h i)) := by
      intro nq
      induction nq using Nat.strongRecOn with
      | _ nq ih =>
      intro i g31 z2 en hy O28 hf
      refine A_iload_n 32 dX10_back_31 rfl rfl rfl ?_
      refine A_bipush 34 (50) dX10_back_32 rfl (by decide) ?_
      refine A_icmp_ge 63 37 dX10_back_34 (by decide) rfl (fun c34 => ?_) (fun c34 => ?_)
      · skip
        obtain rfl := (up_ge_T (N := 50) c34 rfl (by omega) (by omega)).symm
        refine A_aload_n 64 dX10_back_63 rfl rfl rfl ?_
        refine A_aload_n 65 dX10_back_64 rfl rfl rfl ?_
        refine A_getfield 68 dX10_back_65 rfl f_X10_59 O28 rfl ?_
        refine A_iconst 69 (0) dX10_back_68 rfl (by decide) ?_
        refine A_callVV 72 (S_X10_carryAll_t0 X l O28 (y := W k) hy) dX10_back_69 rfl kX10_carryAll lk_X10_199 rfl O28 (by decide) rfl (Nat.le_of_ble_eq_true rfl) (fun h_3 qh_3 => ?_)
        obtain ⟨n0h_3, eh_3⟩ := qh_3
        replace O28 := n0h_3
        replace hf : ∀ i, i ≠ 28 → h_3 i = h i := fun i g0 => (eh_3 i g0).trans (hf i g0)
        refine A_aload_n 73 dX10_back_72 rfl rfl rfl ?_
        refine A_getfield 76 dX10_back_73 rfl f_X10_184 O28 rfl ?_
        try dsimp only
        refine A_iret dX10_back_76 rfl ⟨_, rfl, (by first | with_reducible rfl | (simp only [if_true, if_false, ite_true, ite_false, and_true, true_and, and_false, false_and, and_self, or_true, true_or, or_false, false_or, or_self, not_true_eq_false, not_false_eq_true, decide_true, decide_false, Bool.and_true, Bool.true_and, Bool.and_false, Bool.false_and, Bool.and_self, Bool.or_true, Bool.true_or, Bool.or_false, Bool.false_or, Bool.not_true, Bool.not_false, cond_true, cond_false, bI_t, bI_f, Bool.false_eq_true, Bool.true_eq_false, dayC_1, dayC_21, dayC_221, dayC_222]; done) | (simp only [*]; done) | (simp [bI, *]; done) | with_reducible_and_instances rfl), _, O28, hf⟩
      · skip
        have hi := up_ge_F (N := 50) c34 rfl (by omega) (by omega)
        obtain ⟨n0, rfl⟩ : ∃ q, nq = q + 1 := ⟨nq - 1, by omega⟩
        refine A_aload_n 38 dX10_back_37 rfl rfl rfl ?_
        refine A_getfield 41 dX10_back_38 rfl f_X10_59 O28 rfl ?_
        refine A_iload_n 42 dX10_back_41 rfl rfl rfl ?_
        refine A_aload_n 43 dX10_back_42 rfl rfl rfl ?_
        refine A_getfield 46 dX10_back_43 rfl f_X10_56 O28 rfl ?_
        refine A_bipush 48 (50) dX10_back_46 rfl (by decide) ?_
        refine A_aload_n 49 dX10_back_48 rfl rfl rfl ?_
        refine A_getfield 52 dX10_back_49 rfl f_X10_184 O28 rfl ?_
        try dsimp only
        refine A_imul 53 dX10_back_52 rfl ?_
        refine A_iload_n 54 dX10_back_53 rfl rfl rfl ?_
        refine A_iadd 55 dX10_back_54 rfl ?_
        rw [n50]
        refine A_iaload 56 dX10_back_55 rfl O28 rfl (by first | assumption | exact ix_nI (by omega) (by decide) | exact ix_lit _ rfl (by omega) (by decide) | exact ix_lit _ rfl (by decide) (by decide)) ?_
        try dsimp only
        refine T_X10_15 57 dX10_back_56 rfl O28 (by first | assumption | exact ix_nI (by omega) (by decide) | exact ix_lit _ rfl (by omega) (by decide) | exact ix_lit _ rfl (by decide) (by decide)) (fun h_4 nh_4 eh_4 => ?_)
        replace O28 := nh_4
        replace hf : ∀ i, i ≠ 28 → h_4 i = h i := fun i g0 => (eh_4 i g0).trans (hf i g0)
        try dsimp only at O28
        first | refine A_iincN 60 dX10_back_57 rfl rfl (by decide) (by first | exact (ast_1 rfl) | exact ast_k) ?_ | refine A_iinc 60 (1) dX10_back_57 rfl rfl (by decide) (by decide) (by first | exact (ast_1 rfl) | exact ast_k) ?_
        refine A_goto 31 dX10_back_60 (by decide) ?_
        exact ih n0 (Nat.lt_succ_self n0) (i + 1)  h_4 _ (by omega)  (up_eq (D := enc (W k)) hy (hT k (by omega) i (by omega))) O28 hf
    exact L31 (50) (0)  h_2 (_) (by omega)  (fun j hj => absurd hj (Nat.not_lt_zero j)) O28 hf
  · skip
    exact absurd c9 (nI_ne0 (by omega) (by omega))
set_option maxHeartbeats 4000000 in
set_option maxRecDepth 100000 in
theorem S_X10_clears (X : En) (l : Launch) {h : Hp} {x : PW} {nv : Int32} {cr cl : FI} {cn : Nat} {im : FI} {hi : Int32} {T : FI} {tn : Nat} {cw : FI × Nat} {z : RZ} (O28 : h 28 = some (rB x nv (cr, cl, cn, im, hi, T, tn, cw) z)) : Ct X l mX10_clears [aR 28 0] h (QI (fun vr h2 => (x.2.2.2.2.1) = vr ∧ ∃ (z1 : RZ), h2 (28) = some (rB (clearF x) nv (cr, cl, cn, im, hi, T, 0, cw) z1) ∧ ∀ i, i ≠ 28 → h2 i = h i)) := by
  have hf : ∀ i, i ≠ 28 → h i = h i := fun _ _ => rfl
  refine Ct.intro [some (aR 28 0), none] (by decide +kernel) rfl (Nat.le_of_ble_eq_true rfl) ?_
  refine A_aload_n 1 dX10_clears_0 rfl rfl rfl ?_
  refine A_iconst 2 (0) dX10_clears_1 rfl (by decide) ?_
  refine P_X10_9 5 dX10_clears_2 rfl fw_X10_78 O28 (fun h_1 nh_1 eh_1 => ?_)
  replace O28 := nh_1
  replace hf : ∀ i, i ≠ 28 → h_1 i = h i := fun i g0 => (eh_1 i g0).trans (hf i g0)
  try dsimp only at O28
  refine A_aload_n 6 dX10_clears_5 rfl rfl rfl ?_
  refine A_getfield 9 dX10_clears_6 rfl f_X10_97 O28 rfl ?_
  try dsimp only
  refine A_istore_n 10 dX10_clears_9 rfl rfl (by decide) (by first | exact (ast_1 rfl) | exact ast_k) ?_
  refine A_aload_n 11 dX10_clears_10 rfl rfl rfl ?_
  refine A_iconst 12 (0) dX10_clears_11 rfl (by decide) ?_
  refine P_X10_7 15 dX10_clears_12 rfl fw_X10_97 O28 (fun h_2 nh_2 eh_2 => ?_)
  replace O28 := nh_2
  replace hf : ∀ i, i ≠ 28 → h_2 i = h i := fun i g0 => (eh_2 i g0).trans (hf i g0)
  try dsimp only at O28
  refine A_aload_n 16 dX10_clears_15 rfl rfl rfl ?_
  refine A_iconst 17 (0) dX10_clears_16 rfl (by decide) ?_
  refine P_X10_30 20 dX10_clears_17 rfl fw_X10_184 O28 (fun h_3 nh_3 eh_3 => ?_)
  replace O28 := nh_3
  replace hf : ∀ i, i ≠ 28 → h_3 i = h i := fun i g0 => (eh_3 i g0).trans (hf i g0)
  try dsimp only at O28
  refine A_iload_n 21 dX10_clears_20 rfl rfl rfl ?_
  refine A_iret dX10_clears_21 rfl ⟨_, rfl, (by first | with_reducible rfl | (simp only [if_true, if_false, ite_true, ite_false, and_true, true_and, and_false, false_and, and_self, or_true, true_or, or_false, false_or, or_self, not_true_eq_false, not_false_eq_true, decide_true, decide_false, Bool.and_true, Bool.true_and, Bool.and_false, Bool.false_and, Bool.and_self, Bool.or_true, Bool.true_or, Bool.or_false, Bool.false_or, Bool.not_true, Bool.not_false, cond_true, cond_false, bI_t, bI_f, Bool.false_eq_true, Bool.true_eq_false, dayC_1, dayC_21, dayC_221, dayC_222]; done) | (simp only [*]; done) | (simp [bI, *]; done) | with_reducible_and_instances rfl), _, O28, hf⟩
