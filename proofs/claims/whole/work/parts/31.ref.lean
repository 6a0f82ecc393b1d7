/-! the reference: which kinds, hours or things would do -/
def w1W (x : PW) (p l v : Int32) : Int32 := if isP x p = true ∧ isL x l = true then wrB 0 v 2 else -1
theorem wWh_eq (x : PW) (t : FI) (n : Nat) (p l v : Int32) : wWhich x t n p l v = if w1W x p l v = 0 then wRow x t n else w1W x p l v := by
  unfold wWhich w1W
  by_cases h : isP x p = true ∧ isL x l = true
  · rw [if_pos h, if_pos h, wrB_0]
    by_cases h2 : v < 0 ∨ 2 < v
    · rw [if_pos h2, if_pos h2, if_neg (by decide)]
    · rw [if_neg h2, if_neg h2, if_pos rfl]
  · rw [if_neg h, if_neg h, if_neg (by decide)]
set_option maxHeartbeats 4000000 in
set_option maxRecDepth 100000 in
theorem S_X10_which_0 (X : En) (l : Launch) {h : Hp} {x : PW} {c : RC} {z : RZ} (O28 : h 28 = some (rB x (-1) c z)) (hW : WOK x) (hn : c.2.2.2.2.2.2.2.2 ≤ 16) (hr : ∀ k, k < c.2.2.2.2.2.2.2.2 → ¬ c.2.2.2.2.2.2.2.1 k < 0) {p l0 : Int32} : Ct X l mX10_which [aR 28 0, aI p, aI l0, aI 0] h (QI (fun vr h2 => (rV (wWhich x c.2.2.2.2.2.2.2.1 c.2.2.2.2.2.2.2.2 p l0 0) (aWhich x c.2.2.2.2.2.2.2.1 c.2.2.2.2.2.2.2.2 p l0 0)) = vr ∧ ∃ (z1 : RZ), h2 (28) = some (rB x (-1) (rS (wWhich x c.2.2.2.2.2.2.2.1 c.2.2.2.2.2.2.2.2 p l0 0) c.1, c.2) z1) ∧ ∀ i, i ≠ 28 → h2 i = h i)) := by
  have hx := hW.1
  have hp := hW.2.1
  have h10 := hx.1
  have hf : ∀ i, i ≠ 28 → h i = h i := fun _ _ => rfl
  refine Ct.intro [some (aR 28 0), some (aI p), some (aI l0), some (aI 0), none, none, none] (by decide +kernel) rfl (Nat.le_of_ble_eq_true rfl) ?_
  refine A_aload_n 1 dX10_which_0 rfl rfl rfl ?_
  refine A_iconst 2 (0) dX10_which_1 rfl (by decide) ?_
  refine P_X10_9 5 dX10_which_2 rfl fw_X10_78 O28 (fun h_1 nh_1 eh_1 => ?_)
  replace O28 := nh_1
  replace hf : ∀ i, i ≠ 28 → h_1 i = h i := fun i g0 => (eh_1 i g0).trans (hf i g0)
  try dsimp only at O28
  refine A_joinI 31 (fun vj => vj = w1W x p l0 0) (fun j31 => ?_) (fun v31 e31 => ?_)
  · skip
    refine A_aload_n 6 dX10_which_5 rfl rfl rfl ?_
    refine A_iload_n 7 dX10_which_6 rfl rfl rfl ?_
    refine A_callVI 10 (S_X10_isOne X l (by first | assumption | decide | omega | exact Ne.symm (by assumption)) (by first | assumption | decide | omega | exact Ne.symm (by assumption))) dX10_which_7 rfl kX10_isOne lk_X10_160 rfl O28 (by decide) rfl (Nat.le_of_ble_eq_true rfl) (fun v_2 h_2 qh_2 => ?_)
    obtain ⟨rfl, rfl⟩ := qh_2
    refine A_if_eq 30 13 dX10_which_10 (by decide) rfl (fun c10 => ?_) (fun c10 => ?_)
    · skip
      try simp only [bI_0, bI_n0, Classical.not_not, Bool.not_eq_false, Bool.true_and, Bool.and_true, decide_eq_true_eq, decide_eq_false_iff_not, dayC_1, dayC_21, dayC_221, dayC_222, inI_1, inI_2, inI_3, inI_5, inI_11, inI_16] at c10
      refine A_iconst 31 (-1) dX10_which_30 rfl (by decide) ?_
      exact j31 _ (by first | (simp only [c10, if_true, if_false, ite_true, ite_false, and_true, true_and, and_false, false_and, and_self, or_true, true_or, or_false, false_or, or_self, not_true_eq_false, not_false_eq_true, decide_true, decide_false, Bool.and_true, Bool.true_and, Bool.and_false, Bool.false_and, Bool.and_self, Bool.or_true, Bool.true_or, Bool.or_false, Bool.false_or, Bool.not_true, Bool.not_false, cond_true, cond_false, bI_t, bI_f, Bool.false_eq_true, Bool.true_eq_false, dayC_1, dayC_21, dayC_221, dayC_222, w1W, wrB_N, wrB_0, wrB_1, w01, wP, wPL, wP01, wL01, wRow, w01R, wAB, wNum, isP, isL]; done) | (simp only [c10, if_true, if_false, ite_true, ite_false, and_true, true_and, and_false, false_and, and_self, or_true, true_or, or_false, false_or, or_self, not_true_eq_false, not_false_eq_true, decide_true, decide_false, Bool.and_true, Bool.true_and, Bool.and_false, Bool.false_and, Bool.and_self, Bool.or_true, Bool.true_or, Bool.or_false, Bool.false_or, Bool.not_true, Bool.not_false, cond_true, cond_false, bI_t, bI_f, Bool.false_eq_true, Bool.true_eq_false, dayC_1, dayC_21, dayC_221, dayC_222, w1W, wrN, wrB_N, wrB_0, wrB_1, w01, wP, wPL, wP01, wL01, wRow, w01R, wAB, wNum, isP, isL]; done))
    · skip
      try simp only [bI_0, bI_n0, Classical.not_not, Bool.not_eq_false, Bool.true_and, Bool.and_true, decide_eq_true_eq, decide_eq_false_iff_not, dayC_1, dayC_21, dayC_221, dayC_222, inI_1, inI_2, inI_3, inI_5, inI_11, inI_16] at c10
      refine A_aload_n 14 dX10_which_13 rfl rfl rfl ?_
      refine A_iload_n 15 dX10_which_14 rfl rfl rfl ?_
      refine A_callVI 18 (S_X10_isLaw X l (by first | assumption | decide | omega | exact Ne.symm (by assumption)) (by first | assumption | decide | omega | exact Ne.symm (by assumption))) dX10_which_15 rfl kX10_isLaw lk_X10_206 rfl O28 (by decide) rfl (Nat.le_of_ble_eq_true rfl) (fun v_3 h_3 qh_3 => ?_)
      obtain ⟨rfl, rfl⟩ := qh_3
      refine A_if_eq 30 21 dX10_which_18 (by decide) rfl (fun c18 => ?_) (fun c18 => ?_)
      · skip
        try simp only [bI_0, bI_n0, Classical.not_not, Bool.not_eq_false, Bool.true_and, Bool.and_true, decide_eq_true_eq, decide_eq_false_iff_not, dayC_1, dayC_21, dayC_221, dayC_222, inI_1, inI_2, inI_3, inI_5, inI_11, inI_16] at c18
        refine A_iconst 31 (-1) dX10_which_30 rfl (by decide) ?_
        exact j31 _ (by first | (simp only [c10, c18, if_true, if_false, ite_true, ite_false, and_true, true_and, and_false, false_and, and_self, or_true, true_or, or_false, false_or, or_self, not_true_eq_false, not_false_eq_true, decide_true, decide_false, Bool.and_true, Bool.true_and, Bool.and_false, Bool.false_and, Bool.and_self, Bool.or_true, Bool.true_or, Bool.or_false, Bool.false_or, Bool.not_true, Bool.not_false, cond_true, cond_false, bI_t, bI_f, Bool.false_eq_true, Bool.true_eq_false, dayC_1, dayC_21, dayC_221, dayC_222, w1W, wrB_N, wrB_0, wrB_1, w01, wP, wPL, wP01, wL01, wRow, w01R, wAB, wNum, isP, isL]; done) | (simp only [c10, c18, if_true, if_false, ite_true, ite_false, and_true, true_and, and_false, false_and, and_self, or_true, true_or, or_false, false_or, or_self, not_true_eq_false, not_false_eq_true, decide_true, decide_false, Bool.and_true, Bool.true_and, Bool.and_false, Bool.false_and, Bool.and_self, Bool.or_true, Bool.true_or, Bool.or_false, Bool.false_or, Bool.not_true, Bool.not_false, cond_true, cond_false, bI_t, bI_f, Bool.false_eq_true, Bool.true_eq_false, dayC_1, dayC_21, dayC_221, dayC_222, w1W, wrN, wrB_N, wrB_0, wrB_1, w01, wP, wPL, wP01, wL01, wRow, w01R, wAB, wNum, isP, isL]; done))
      · skip
        try simp only [bI_0, bI_n0, Classical.not_not, Bool.not_eq_false, Bool.true_and, Bool.and_true, decide_eq_true_eq, decide_eq_false_iff_not, dayC_1, dayC_21, dayC_221, dayC_222, inI_1, inI_2, inI_3, inI_5, inI_11, inI_16] at c18
        refine A_iconst 22 (0) dX10_which_21 rfl (by decide) ?_
        refine A_iload_n 23 dX10_which_22 rfl rfl rfl ?_
        refine A_iconst 24 (2) dX10_which_23 rfl (by decide) ?_
        refine A_callSI 27 (S_X10_wrongBit X l) dX10_which_24 rfl kX10_wrongBit lk_X10_225 rfl (by decide) rfl (Nat.le_of_ble_eq_true rfl) (fun v_4 h_4 qh_4 => ?_)
        obtain ⟨rfl, rfl⟩ := qh_4
        refine A_goto 31 dX10_which_27 (by decide) ?_
        exact j31 _ (by first | (simp only [c10, c18, if_true, if_false, ite_true, ite_false, and_true, true_and, and_false, false_and, and_self, or_true, true_or, or_false, false_or, or_self, not_true_eq_false, not_false_eq_true, decide_true, decide_false, Bool.and_true, Bool.true_and, Bool.and_false, Bool.false_and, Bool.and_self, Bool.or_true, Bool.true_or, Bool.or_false, Bool.false_or, Bool.not_true, Bool.not_false, cond_true, cond_false, bI_t, bI_f, Bool.false_eq_true, Bool.true_eq_false, dayC_1, dayC_21, dayC_221, dayC_222, w1W, wrB_N, wrB_0, wrB_1, w01, wP, wPL, wP01, wL01, wRow, w01R, wAB, wNum, isP, isL]; done) | (simp only [c10, c18, if_true, if_false, ite_true, ite_false, and_true, true_and, and_false, false_and, and_self, or_true, true_or, or_false, false_or, or_self, not_true_eq_false, not_false_eq_true, decide_true, decide_false, Bool.and_true, Bool.true_and, Bool.and_false, Bool.false_and, Bool.and_self, Bool.or_true, Bool.true_or, Bool.or_false, Bool.false_or, Bool.not_true, Bool.not_false, cond_true, cond_false, bI_t, bI_f, Bool.false_eq_true, Bool.true_eq_false, dayC_1, dayC_21, dayC_221, dayC_222, w1W, wrN, wrB_N, wrB_0, wrB_1, w01, wP, wPL, wP01, wL01, wRow, w01R, wAB, wNum, isP, isL]; done))
  subst e31
  refine A_istore 33 dX10_which_31 rfl (by decide) (by first | exact (ast_s (ast_s (ast_s (ast_1 rfl)))) | exact (ast_s (ast_s (ast_s ast_k)))) ?_
  refine A_joinI 47 (fun vj => vj = wWhich x c.2.2.2.2.2.2.2.1 c.2.2.2.2.2.2.2.2 p l0 0) (fun j47 => ?_) (fun v47 e47 => ?_)
  · skip
    refine A_iload 35 dX10_which_33 rfl rfl ?_
    refine A_if_ne 45 38 dX10_which_35 (by decide) rfl (fun c35 => ?_) (fun c35 => ?_)
    · skip
      try simp only [bI_0, bI_n0, Classical.not_not, Bool.not_eq_false, Bool.true_and, Bool.and_true, decide_eq_true_eq, decide_eq_false_iff_not, dayC_1, dayC_21, dayC_221, dayC_222, inI_1, inI_2, inI_3, inI_5, inI_11, inI_16] at c35
      refine A_iload 47 dX10_which_45 rfl rfl ?_
      exact j47 _ (by rw [wWh_eq]; first | (simp only [c35, if_true, if_false, ite_true, ite_false, and_true, true_and, and_false, false_and, and_self, or_true, true_or, or_false, false_or, or_self, not_true_eq_false, not_false_eq_true, decide_true, decide_false, Bool.and_true, Bool.true_and, Bool.and_false, Bool.false_and, Bool.and_self, Bool.or_true, Bool.true_or, Bool.or_false, Bool.false_or, Bool.not_true, Bool.not_false, cond_true, cond_false, bI_t, bI_f, Bool.false_eq_true, Bool.true_eq_false, dayC_1, dayC_21, dayC_221, dayC_222, pk]; done))
    · skip
      try simp only [bI_0, bI_n0, Classical.not_not, Bool.not_eq_false, Bool.true_and, Bool.and_true, decide_eq_true_eq, decide_eq_false_iff_not, dayC_1, dayC_21, dayC_221, dayC_222, inI_1, inI_2, inI_3, inI_5, inI_11, inI_16] at c35
      refine A_aload_n 39 dX10_which_38 rfl rfl rfl ?_
      refine A_callVI 42 (S_X10_wrongRow X l (by first | assumption | decide | omega | exact Ne.symm (by assumption)) (by first | assumption | decide | omega | exact Ne.symm (by assumption)) (by first | assumption | decide | omega | exact Ne.symm (by assumption)) (by first | assumption | decide | omega | exact Ne.symm (by assumption))) dX10_which_39 rfl kX10_wrongRow lk_X10_242 rfl O28 (by decide) rfl (Nat.le_of_ble_eq_true rfl) (fun v_5 h_5 qh_5 => ?_)
      obtain ⟨rfl, rfl⟩ := qh_5
      refine A_goto 47 dX10_which_42 (by decide) ?_
      exact j47 _ (by rw [wWh_eq]; first | (simp only [c35, if_true, if_false, ite_true, ite_false, and_true, true_and, and_false, false_and, and_self, or_true, true_or, or_false, false_or, or_self, not_true_eq_false, not_false_eq_true, decide_true, decide_false, Bool.and_true, Bool.true_and, Bool.and_false, Bool.false_and, Bool.and_self, Bool.or_true, Bool.true_or, Bool.or_false, Bool.false_or, Bool.not_true, Bool.not_false, cond_true, cond_false, bI_t, bI_f, Bool.false_eq_true, Bool.true_eq_false, dayC_1, dayC_21, dayC_221, dayC_222, pk]; done) | (simp only [eq_true c35, if_true, if_false, ite_true, ite_false, and_true, true_and, and_false, false_and, and_self, or_true, true_or, or_false, false_or, or_self, not_true_eq_false, not_false_eq_true, decide_true, decide_false, Bool.and_true, Bool.true_and, Bool.and_false, Bool.false_and, Bool.and_self, Bool.or_true, Bool.true_or, Bool.or_false, Bool.false_or, Bool.not_true, Bool.not_false, cond_true, cond_false, bI_t, bI_f, Bool.false_eq_true, Bool.true_eq_false, dayC_1, dayC_21, dayC_221, dayC_222, pk]; done))
  subst e47
  refine A_istore 49 dX10_which_47 rfl (by decide) (by first | exact (ast_s (ast_s (ast_s (ast_1 rfl)))) | exact (ast_s (ast_s (ast_s ast_k)))) ?_
  refine A_iload 51 dX10_which_49 rfl rfl ?_
  refine A_if_ge 61 54 dX10_which_51 (by decide) rfl (fun c51 => ?_) (fun c51 => ?_)
  · skip
    try simp only [bI_0, bI_n0, Classical.not_not, Bool.not_eq_false, Bool.true_and, Bool.and_true, decide_eq_true_eq, decide_eq_false_iff_not, dayC_1, dayC_21, dayC_221, dayC_222, inI_1, inI_2, inI_3, inI_5, inI_11, inI_16] at c51
    have n51 := c51
    replace c51 := Int32.not_lt.mpr c51
    have hw0 : wWhich x c.2.2.2.2.2.2.2.1 c.2.2.2.2.2.2.2.2 p l0 0 = 0 := cz_pos wWhich_cz c51
    obtain ⟨⟨f1, f1b⟩, f2, f3⟩ := wWhich_0 hw0
    obtain ⟨k_p, rfl, hk_p⟩ := inN_ex f1 (by omega)
    have cl_p : (nI k_p).toNatClampNeg = k_p := nI_clamp (by omega)
    have hk6_p : k_p < 6 := by omega
    obtain ⟨k_l0, rfl, hk_l0⟩ := inN_ex f1b (by omega)
    have cl_l0 : (nI k_l0).toNatClampNeg = k_l0 := nI_clamp (by omega)
    have hk6_l0 : k_l0 < 10 := by omega
    have h12 := rowOK_12 f3
    refine A_iconst 62 (0) dX10_which_61 rfl (by decide) ?_
    refine A_istore 64 dX10_which_62 rfl (by decide) (by first | exact (ast_s (ast_s (ast_s (ast_s (ast_1 rfl))))) | exact (ast_s (ast_s (ast_s (ast_s ast_k))))) ?_
    refine A_aload_n 65 dX10_which_64 rfl rfl rfl ?_
    refine A_callVV 68 (S_X10_think X l (by first | assumption | decide | omega | exact Ne.symm (by assumption))) dX10_which_65 rfl kX10_think lk_X10_175 rfl O28 (by decide) rfl (Nat.le_of_ble_eq_true rfl) (fun h_6 qh_6 => ?_)
    obtain ⟨n0h_6, eh_6⟩ := qh_6
    replace O28 := n0h_6
    replace hf : ∀ i, i ≠ 28 → h_6 i = h i := fun i g0 => (eh_6 i g0).trans (hf i g0)
    refine A_iconst 69 (0) dX10_which_68 rfl (by decide) ?_
    refine A_istore 71 dX10_which_69 rfl (by decide) (by first | exact (ast_s (ast_s (ast_s (ast_s (ast_s (ast_1 rfl)))))) | exact (ast_s (ast_s (ast_s (ast_s (ast_s ast_k)))))) ?_
    have L71 : ∀ (nq i : Nat) (u : Int32) (g71 : Hp) (xx : PW) (rd0 : RD) (rm0 : RM) (tf0 : FI) (r30 : Nat × Int32 × AV) (rs0 : RS), (nq + i = 6) → (foldN (fpF x c.2.2.2.2.2.2.2.1 c.2.2.2.2.2.2.2.2 (x.2.1 k_p) k_l0 0) (0) i = (u)) → ((∀ v, setP xx k_l0 0 v = setP x k_l0 0 v) ∧ xx.2 = x.2) → (g71 28 = some (rB xx (-1) c (rd0, rm0, (enc x, tf0, r30), rs0))) → (∀ i, i ≠ 28 → g71 i = h i) → Av X l mX10_which 71 [some (aR 28 0), some (aI (nI (k_p))), some (aI (nI (k_l0))), some (aI (0)), none, some (aI (u)), some (aI (nI (i)))] [] g71 (QI (fun vr h2 => (rV (wWhich x c.2.2.2.2.2.2.2.1 c.2.2.2.2.2.2.2.2 (nI k_p) (nI k_l0) 0) (aWhich x c.2.2.2.2.2.2.2.1 c.2.2.2.2.2.2.2.2 (nI k_p) (nI k_l0) 0)) = vr ∧ ∃ (z1 : RZ), h2 (28) = some (rB x (-1) (rS (wWhich x c.2.2.2.2.2.2.2.1 c.2.2.2.2.2.2.2.2 (nI k_p) (nI k_l0) 0) c.1, c.2) z1) ∧ ∀ i, i ≠ 28 → h2 i = h i)) := by
      intro nq
      induction nq using Nat.strongRecOn with
      | _ nq ih =>
      intro i u g71 xx rd0 rm0 tf0 r30 rs0 en ee hy O28 hf
      refine A_iload 73 dX10_which_71 rfl rfl ?_
      refine A_iload_n 74 dX10_which_73 rfl rfl rfl ?_
      refine A_if_ne 82 77 dX10_which_74 (by decide) rfl (fun c74 => ?_) (fun c74 => ?_)
      · skip
        exact absurd c74 (by decide)
      · skip
        refine A_bipush 79 (6) dX10_which_77 rfl (by decide) ?_
        refine A_goto 94 dX10_which_79 (by decide) ?_
        refine A_icmp_ge 194 97 dX10_which_94 (by decide) rfl (fun c94 => ?_) (fun c94 => ?_)
        · skip
          obtain rfl := (up_ge_T (N := 6) c94 rfl (by omega) (by omega)).symm
          refine A_aload_n 195 dX10_which_194 rfl rfl rfl ?_
          refine A_callVV 198 (S_X10_again X l (by first | assumption | decide | omega | exact Ne.symm (by assumption))) dX10_which_195 rfl kX10_again lk_X10_181 rfl O28 (by decide) rfl (Nat.le_of_ble_eq_true rfl) (fun h_7 qh_7 => ?_)
          obtain ⟨n0h_7, eh_7⟩ := qh_7
          replace O28 := n0h_7
          replace hf : ∀ i, i ≠ 28 → h_7 i = h i := fun i g0 => (eh_7 i g0).trans (hf i g0)
          refine A_iload 200 dX10_which_198 rfl rfl ?_
          refine A_iret dX10_which_200 rfl ⟨_, rfl, (by rw [hw0, rV_0]; unfold aWhich pk; rw [cl_p, cl_l0, show (0 : Int32).toNatClampNeg = 0 from rfl]; exact ee), _, (by rw [hw0, rS_0]; exact O28), hf⟩
        · skip
          have hi := up_ge_F (N := 6) c94 rfl (by omega) (by omega)
          obtain ⟨n0, rfl⟩ : ∃ q, nq = q + 1 := ⟨nq - 1, by omega⟩
          refine A_aload_n 98 dX10_which_97 rfl rfl rfl ?_
          refine A_getfield 101 dX10_which_98 rfl f_X10_7 O28 rfl ?_
          refine A_iload_n 102 dX10_which_101 rfl rfl rfl ?_
          refine A_iload_n 103 dX10_which_102 rfl rfl rfl ?_
          refine A_if_ne 111 106 dX10_which_103 (by decide) rfl (fun c103 => ?_) (fun c103 => ?_)
          · skip
            exact absurd c103 (by decide)
          · skip
            refine A_iload 108 dX10_which_106 rfl rfl ?_
            refine A_goto 117 dX10_which_108 (by decide) ?_
            refine T_X10_0 118 dX10_which_117 rfl O28 (by first | assumption | exact ix_nI (by omega) (by decide) | exact ix_lit _ rfl (by omega) (by decide) | exact ix_lit _ rfl (by decide) (by decide)) (fun h_8 nh_8 eh_8 => ?_)
            replace O28 := nh_8
            replace hf : ∀ i, i ≠ 28 → h_8 i = h i := fun i g0 => (eh_8 i g0).trans (hf i g0)
            try dsimp only at O28
            refine A_aload_n 119 dX10_which_118 rfl rfl rfl ?_
            refine A_getfield 122 dX10_which_119 rfl f_X10_13 O28 rfl ?_
            refine A_iload_n 123 dX10_which_122 rfl rfl rfl ?_
            refine A_iload_n 124 dX10_which_123 rfl rfl rfl ?_
            refine A_iconst 125 (1) dX10_which_124 rfl (by decide) ?_
            refine A_icmp_ne 133 128 dX10_which_125 (by decide) rfl (fun c125 => ?_) (fun c125 => ?_)
            · skip
              refine A_aload_n 134 dX10_which_133 rfl rfl rfl ?_
              refine A_getfield 137 dX10_which_134 rfl f_X10_13 O28 rfl ?_
              refine A_iload_n 138 dX10_which_137 rfl rfl rfl ?_
              refine A_iaload 139 dX10_which_138 rfl O28 rfl (by first | assumption | exact ix_nI (by omega) (by decide) | exact ix_lit _ rfl (by omega) (by decide) | exact ix_lit _ rfl (by decide) (by decide)) ?_
              try dsimp only
              refine T_X10_1 140 dX10_which_139 rfl O28 (by first | assumption | exact ix_nI (by omega) (by decide) | exact ix_lit _ rfl (by omega) (by decide) | exact ix_lit _ rfl (by decide) (by decide)) (fun h_9 nh_9 eh_9 => ?_)
              replace O28 := nh_9
              replace hf : ∀ i, i ≠ 28 → h_9 i = h i := fun i g0 => (eh_9 i g0).trans (hf i g0)
              try dsimp only at O28
              refine A_aload_n 141 dX10_which_140 rfl rfl rfl ?_
              refine A_getfield 144 dX10_which_141 rfl f_X10_16 O28 rfl ?_
              refine A_iload_n 145 dX10_which_144 rfl rfl rfl ?_
              refine A_iload_n 146 dX10_which_145 rfl rfl rfl ?_
              refine A_iconst 147 (2) dX10_which_146 rfl (by decide) ?_
              refine A_icmp_ne 155 150 dX10_which_147 (by decide) rfl (fun c147 => ?_) (fun c147 => ?_)
              · skip
                refine A_aload_n 156 dX10_which_155 rfl rfl rfl ?_
                refine A_getfield 159 dX10_which_156 rfl f_X10_16 O28 rfl ?_
                refine A_iload_n 160 dX10_which_159 rfl rfl rfl ?_
                refine A_iaload 161 dX10_which_160 rfl O28 rfl (by first | assumption | exact ix_nI (by omega) (by decide) | exact ix_lit _ rfl (by omega) (by decide) | exact ix_lit _ rfl (by decide) (by decide)) ?_
                try dsimp only
                refine T_X10_2 162 dX10_which_161 rfl O28 (by first | assumption | exact ix_nI (by omega) (by decide) | exact ix_lit _ rfl (by omega) (by decide) | exact ix_lit _ rfl (by decide) (by decide)) (fun h_10 nh_10 eh_10 => ?_)
                replace O28 := nh_10
                replace hf : ∀ i, i ≠ 28 → h_10 i = h i := fun i g0 => (eh_10 i g0).trans (hf i g0)
                try dsimp only at O28
                replace O28 : h_10 28 = some (rB (setP x k_l0 0 (nI i)) (-1) c (rd0, rm0, (enc x, tf0, r30), rs0)) := by
                  rw [← hy.1]
                  unfold setP
                  first | exact O28 | (simp only [Nat.add_zero, up_same] at O28; exact O28)
                have hL := hx.sP (k := k_l0) (j := 0) (i := i) (by decide) (by show i < 6; omega)
                refine A_iload 164 dX10_which_162 rfl rfl ?_
                refine A_aload_n 165 dX10_which_164 rfl rfl rfl ?_
                refine A_aload_n 166 dX10_which_165 rfl rfl rfl ?_
                refine A_getfield 169 dX10_which_166 rfl f_X10_22 O28 rfl ?_
                refine A_iload_n 170 dX10_which_169 rfl rfl rfl ?_
                refine A_iaload 171 dX10_which_170 rfl O28 rfl (by first | assumption | exact ix_nI (by omega) (by decide) | exact ix_lit _ rfl (by omega) (by decide) | exact ix_lit _ rfl (by decide) (by decide)) ?_
                try dsimp only
                refine A_callVI 174 (S_X10_isRow X l O28 ⟨hL, hW.2⟩ (by omega) hr) dX10_which_171 rfl kX10_isRow lk_X10_239 rfl O28 (by decide) rfl (Nat.le_of_ble_eq_true rfl) (fun v_11 h_11 qh_11 => ?_)
                obtain ⟨rfl, n0h_11, eh_11⟩ := qh_11
                replace O28 := n0h_11
                replace hf : ∀ i, i ≠ 28 → h_11 i = h i := fun i g0 => (eh_11 i g0).trans (hf i g0)
                rw [show (setP x k_l0 0 (nI i)).2.1 k_p = x.2.1 k_p from rfl]
                refine A_if_eq 184 177 dX10_which_174 (by decide) rfl (fun c174 => ?_) (fun c174 => ?_)
                · skip
                  try simp only [bI_0, bI_n0, Classical.not_not, Bool.not_eq_false, Bool.true_and, Bool.and_true, decide_eq_true_eq, decide_eq_false_iff_not, dayC_1, dayC_21, dayC_221, dayC_222, inI_1, inI_2, inI_3, inI_5, inI_11, inI_16] at c174
                  refine A_iconst 185 (0) dX10_which_184 rfl (by decide) ?_
                  refine A_ior 186 dX10_which_185 rfl ?_
                  refine A_istore 188 dX10_which_186 rfl (by decide) (by first | exact (ast_s (ast_s (ast_s (ast_s (ast_1 rfl))))) | exact (ast_s (ast_s (ast_s (ast_s ast_k))))) ?_
                  first | refine A_iincN 191 dX10_which_188 rfl rfl (by decide) (by first | exact (ast_s (ast_s (ast_s (ast_s (ast_s (ast_1 rfl)))))) | exact (ast_s (ast_s (ast_s (ast_s (ast_s ast_k)))))) ?_ | refine A_iinc 191 (1) dX10_which_188 rfl rfl (by decide) (by decide) (by first | exact (ast_s (ast_s (ast_s (ast_s (ast_s (ast_1 rfl)))))) | exact (ast_s (ast_s (ast_s (ast_s (ast_s ast_k)))))) ?_
                  refine A_goto 71 dX10_which_191 (by decide) ?_
                  exact A_weak (ih n0 (Nat.lt_succ_self n0) (i + 1) _ h_11 _ _ _ _ _ _ (by omega) ((foldN_s (fpF x c.2.2.2.2.2.2.2.1 c.2.2.2.2.2.2.2.2 (x.2.1 k_p) k_l0 0) (0) i).trans ((congrArg ((fpF x c.2.2.2.2.2.2.2.1 c.2.2.2.2.2.2.2.2 (x.2.1 k_p) k_l0 0) i) ee).trans (by first | (unfold fpF; rw [if_pos c174]; done) | (unfold fpF; rw [if_neg c174, Int32.or_zero]; done)))) (⟨fun v => setP_setP x k_l0 0 (nI i) v, rfl⟩) O28 hf) (sub_s (sub_s (sub_s (sub_s (sub_n (sub_s (sub_s sub_nil)))))))
                · skip
                  try simp only [bI_0, bI_n0, Classical.not_not, Bool.not_eq_false, Bool.true_and, Bool.and_true, decide_eq_true_eq, decide_eq_false_iff_not, dayC_1, dayC_21, dayC_221, dayC_222, inI_1, inI_2, inI_3, inI_5, inI_11, inI_16] at c174
                  refine A_iconst 178 (1) dX10_which_177 rfl (by decide) ?_
                  refine A_iload 180 dX10_which_178 rfl rfl ?_
                  refine A_ishl 181 dX10_which_180 rfl ?_
                  rw [sh_one]
                  refine A_goto 185 dX10_which_181 (by decide) ?_
                  refine A_ior 186 dX10_which_185 rfl ?_
                  refine A_istore 188 dX10_which_186 rfl (by decide) (by first | exact (ast_s (ast_s (ast_s (ast_s (ast_1 rfl))))) | exact (ast_s (ast_s (ast_s (ast_s ast_k))))) ?_
                  first | refine A_iincN 191 dX10_which_188 rfl rfl (by decide) (by first | exact (ast_s (ast_s (ast_s (ast_s (ast_s (ast_1 rfl)))))) | exact (ast_s (ast_s (ast_s (ast_s (ast_s ast_k)))))) ?_ | refine A_iinc 191 (1) dX10_which_188 rfl rfl (by decide) (by decide) (by first | exact (ast_s (ast_s (ast_s (ast_s (ast_s (ast_1 rfl)))))) | exact (ast_s (ast_s (ast_s (ast_s (ast_s ast_k)))))) ?_
                  refine A_goto 71 dX10_which_191 (by decide) ?_
                  exact A_weak (ih n0 (Nat.lt_succ_self n0) (i + 1) _ h_11 _ _ _ _ _ _ (by omega) ((foldN_s (fpF x c.2.2.2.2.2.2.2.1 c.2.2.2.2.2.2.2.2 (x.2.1 k_p) k_l0 0) (0) i).trans ((congrArg ((fpF x c.2.2.2.2.2.2.2.1 c.2.2.2.2.2.2.2.2 (x.2.1 k_p) k_l0 0) i) ee).trans (by first | (unfold fpF; rw [if_pos c174]; done) | (unfold fpF; rw [if_neg c174, Int32.or_zero]; done)))) (⟨fun v => setP_setP x k_l0 0 (nI i) v, rfl⟩) O28 hf) (sub_s (sub_s (sub_s (sub_s (sub_n (sub_s (sub_s sub_nil)))))))
              · skip
                exact absurd c147 (by decide)
            · skip
              exact absurd c125 (by decide)
    exact A_weak (L71 (6) (0) (_) h_6 (x) (_) (_) (_) (_) (_) (by omega) (rfl) (⟨fun _ => rfl, rfl⟩) O28 hf) (sub_s (sub_s (sub_s (sub_s (sub_n (sub_s (sub_s sub_nil)))))))
  · skip
    try simp only [bI_0, bI_n0, Classical.not_not, Bool.not_eq_false, Bool.true_and, Bool.and_true, decide_eq_true_eq, decide_eq_false_iff_not, dayC_1, dayC_21, dayC_221, dayC_222, inI_1, inI_2, inI_3, inI_5, inI_11, inI_16] at c51
    have n51 := c51
    replace c51 := Int32.not_le.mp c51
    have hcd : CD (wWhich x c.2.2.2.2.2.2.2.1 c.2.2.2.2.2.2.2.2 p l0 0) := cz_neg wWhich_cz c51
    refine A_aload_n 55 dX10_which_54 rfl rfl rfl ?_
    refine A_iload 57 dX10_which_55 rfl rfl ?_
    refine A_callVI 60 (S_X10_refuse_c X l (by first | assumption | decide | omega | exact Ne.symm (by assumption)) (by first | assumption | (unfold CD; decide))) dX10_which_57 rfl kX10_refuse lk_X10_121 rfl O28 (by decide) rfl (Nat.le_of_ble_eq_true rfl) (fun v_12 h_12 qh_12 => ?_)
    obtain ⟨rfl, n0h_12, eh_12⟩ := qh_12
    replace O28 := n0h_12
    replace hf : ∀ i, i ≠ 28 → h_12 i = h i := fun i g0 => (eh_12 i g0).trans (hf i g0)
    refine A_iret dX10_which_60 rfl ⟨_, rfl, (by exact rV_n hcd.ne), _, O28, hf⟩
set_option maxHeartbeats 4000000 in
set_option maxRecDepth 100000 in
theorem S_X10_which_1 (X : En) (l : Launch) {h : Hp} {x : PW} {c : RC} {z : RZ} (O28 : h 28 = some (rB x (-1) c z)) (hW : WOK x) (hn : c.2.2.2.2.2.2.2.2 ≤ 16) (hr : ∀ k, k < c.2.2.2.2.2.2.2.2 → ¬ c.2.2.2.2.2.2.2.1 k < 0) {p l0 : Int32} : Ct X l mX10_which [aR 28 0, aI p, aI l0, aI 1] h (QI (fun vr h2 => (rV (wWhich x c.2.2.2.2.2.2.2.1 c.2.2.2.2.2.2.2.2 p l0 1) (aWhich x c.2.2.2.2.2.2.2.1 c.2.2.2.2.2.2.2.2 p l0 1)) = vr ∧ ∃ (z1 : RZ), h2 (28) = some (rB x (-1) (rS (wWhich x c.2.2.2.2.2.2.2.1 c.2.2.2.2.2.2.2.2 p l0 1) c.1, c.2) z1) ∧ ∀ i, i ≠ 28 → h2 i = h i)) := by
  have hx := hW.1
  have hp := hW.2.1
  have h10 := hx.1
  have hf : ∀ i, i ≠ 28 → h i = h i := fun _ _ => rfl
  refine Ct.intro [some (aR 28 0), some (aI p), some (aI l0), some (aI 1), none, none, none] (by decide +kernel) rfl (Nat.le_of_ble_eq_true rfl) ?_
  refine A_aload_n 1 dX10_which_0 rfl rfl rfl ?_
  refine A_iconst 2 (0) dX10_which_1 rfl (by decide) ?_
  refine P_X10_9 5 dX10_which_2 rfl fw_X10_78 O28 (fun h_1 nh_1 eh_1 => ?_)
  replace O28 := nh_1
  replace hf : ∀ i, i ≠ 28 → h_1 i = h i := fun i g0 => (eh_1 i g0).trans (hf i g0)
  try dsimp only at O28
  refine A_joinI 31 (fun vj => vj = w1W x p l0 1) (fun j31 => ?_) (fun v31 e31 => ?_)
  · skip
    refine A_aload_n 6 dX10_which_5 rfl rfl rfl ?_
    refine A_iload_n 7 dX10_which_6 rfl rfl rfl ?_
    refine A_callVI 10 (S_X10_isOne X l (by first | assumption | decide | omega | exact Ne.symm (by assumption)) (by first | assumption | decide | omega | exact Ne.symm (by assumption))) dX10_which_7 rfl kX10_isOne lk_X10_160 rfl O28 (by decide) rfl (Nat.le_of_ble_eq_true rfl) (fun v_2 h_2 qh_2 => ?_)
    obtain ⟨rfl, rfl⟩ := qh_2
    refine A_if_eq 30 13 dX10_which_10 (by decide) rfl (fun c10 => ?_) (fun c10 => ?_)
    · skip
      try simp only [bI_0, bI_n0, Classical.not_not, Bool.not_eq_false, Bool.true_and, Bool.and_true, decide_eq_true_eq, decide_eq_false_iff_not, dayC_1, dayC_21, dayC_221, dayC_222, inI_1, inI_2, inI_3, inI_5, inI_11, inI_16] at c10
      refine A_iconst 31 (-1) dX10_which_30 rfl (by decide) ?_
      exact j31 _ (by first | (simp only [c10, if_true, if_false, ite_true, ite_false, and_true, true_and, and_false, false_and, and_self, or_true, true_or, or_false, false_or, or_self, not_true_eq_false, not_false_eq_true, decide_true, decide_false, Bool.and_true, Bool.true_and, Bool.and_false, Bool.false_and, Bool.and_self, Bool.or_true, Bool.true_or, Bool.or_false, Bool.false_or, Bool.not_true, Bool.not_false, cond_true, cond_false, bI_t, bI_f, Bool.false_eq_true, Bool.true_eq_false, dayC_1, dayC_21, dayC_221, dayC_222, w1W, wrB_N, wrB_0, wrB_1, w01, wP, wPL, wP01, wL01, wRow, w01R, wAB, wNum, isP, isL]; done) | (simp only [c10, if_true, if_false, ite_true, ite_false, and_true, true_and, and_false, false_and, and_self, or_true, true_or, or_false, false_or, or_self, not_true_eq_false, not_false_eq_true, decide_true, decide_false, Bool.and_true, Bool.true_and, Bool.and_false, Bool.false_and, Bool.and_self, Bool.or_true, Bool.true_or, Bool.or_false, Bool.false_or, Bool.not_true, Bool.not_false, cond_true, cond_false, bI_t, bI_f, Bool.false_eq_true, Bool.true_eq_false, dayC_1, dayC_21, dayC_221, dayC_222, w1W, wrN, wrB_N, wrB_0, wrB_1, w01, wP, wPL, wP01, wL01, wRow, w01R, wAB, wNum, isP, isL]; done))
    · skip
      try simp only [bI_0, bI_n0, Classical.not_not, Bool.not_eq_false, Bool.true_and, Bool.and_true, decide_eq_true_eq, decide_eq_false_iff_not, dayC_1, dayC_21, dayC_221, dayC_222, inI_1, inI_2, inI_3, inI_5, inI_11, inI_16] at c10
      refine A_aload_n 14 dX10_which_13 rfl rfl rfl ?_
      refine A_iload_n 15 dX10_which_14 rfl rfl rfl ?_
      refine A_callVI 18 (S_X10_isLaw X l (by first | assumption | decide | omega | exact Ne.symm (by assumption)) (by first | assumption | decide | omega | exact Ne.symm (by assumption))) dX10_which_15 rfl kX10_isLaw lk_X10_206 rfl O28 (by decide) rfl (Nat.le_of_ble_eq_true rfl) (fun v_3 h_3 qh_3 => ?_)
      obtain ⟨rfl, rfl⟩ := qh_3
      refine A_if_eq 30 21 dX10_which_18 (by decide) rfl (fun c18 => ?_) (fun c18 => ?_)
      · skip
        try simp only [bI_0, bI_n0, Classical.not_not, Bool.not_eq_false, Bool.true_and, Bool.and_true, decide_eq_true_eq, decide_eq_false_iff_not, dayC_1, dayC_21, dayC_221, dayC_222, inI_1, inI_2, inI_3, inI_5, inI_11, inI_16] at c18
        refine A_iconst 31 (-1) dX10_which_30 rfl (by decide) ?_
        exact j31 _ (by first | (simp only [c10, c18, if_true, if_false, ite_true, ite_false, and_true, true_and, and_false, false_and, and_self, or_true, true_or, or_false, false_or, or_self, not_true_eq_false, not_false_eq_true, decide_true, decide_false, Bool.and_true, Bool.true_and, Bool.and_false, Bool.false_and, Bool.and_self, Bool.or_true, Bool.true_or, Bool.or_false, Bool.false_or, Bool.not_true, Bool.not_false, cond_true, cond_false, bI_t, bI_f, Bool.false_eq_true, Bool.true_eq_false, dayC_1, dayC_21, dayC_221, dayC_222, w1W, wrB_N, wrB_0, wrB_1, w01, wP, wPL, wP01, wL01, wRow, w01R, wAB, wNum, isP, isL]; done) | (simp only [c10, c18, if_true, if_false, ite_true, ite_false, and_true, true_and, and_false, false_and, and_self, or_true, true_or, or_false, false_or, or_self, not_true_eq_false, not_false_eq_true, decide_true, decide_false, Bool.and_true, Bool.true_and, Bool.and_false, Bool.false_and, Bool.and_self, Bool.or_true, Bool.true_or, Bool.or_false, Bool.false_or, Bool.not_true, Bool.not_false, cond_true, cond_false, bI_t, bI_f, Bool.false_eq_true, Bool.true_eq_false, dayC_1, dayC_21, dayC_221, dayC_222, w1W, wrN, wrB_N, wrB_0, wrB_1, w01, wP, wPL, wP01, wL01, wRow, w01R, wAB, wNum, isP, isL]; done))
      · skip
        try simp only [bI_0, bI_n0, Classical.not_not, Bool.not_eq_false, Bool.true_and, Bool.and_true, decide_eq_true_eq, decide_eq_false_iff_not, dayC_1, dayC_21, dayC_221, dayC_222, inI_1, inI_2, inI_3, inI_5, inI_11, inI_16] at c18
        refine A_iconst 22 (0) dX10_which_21 rfl (by decide) ?_
        refine A_iload_n 23 dX10_which_22 rfl rfl rfl ?_
        refine A_iconst 24 (2) dX10_which_23 rfl (by decide) ?_
        refine A_callSI 27 (S_X10_wrongBit X l) dX10_which_24 rfl kX10_wrongBit lk_X10_225 rfl (by decide) rfl (Nat.le_of_ble_eq_true rfl) (fun v_4 h_4 qh_4 => ?_)
        obtain ⟨rfl, rfl⟩ := qh_4
        refine A_goto 31 dX10_which_27 (by decide) ?_
        exact j31 _ (by first | (simp only [c10, c18, if_true, if_false, ite_true, ite_false, and_true, true_and, and_false, false_and, and_self, or_true, true_or, or_false, false_or, or_self, not_true_eq_false, not_false_eq_true, decide_true, decide_false, Bool.and_true, Bool.true_and, Bool.and_false, Bool.false_and, Bool.and_self, Bool.or_true, Bool.true_or, Bool.or_false, Bool.false_or, Bool.not_true, Bool.not_false, cond_true, cond_false, bI_t, bI_f, Bool.false_eq_true, Bool.true_eq_false, dayC_1, dayC_21, dayC_221, dayC_222, w1W, wrB_N, wrB_0, wrB_1, w01, wP, wPL, wP01, wL01, wRow, w01R, wAB, wNum, isP, isL]; done) | (simp only [c10, c18, if_true, if_false, ite_true, ite_false, and_true, true_and, and_false, false_and, and_self, or_true, true_or, or_false, false_or, or_self, not_true_eq_false, not_false_eq_true, decide_true, decide_false, Bool.and_true, Bool.true_and, Bool.and_false, Bool.false_and, Bool.and_self, Bool.or_true, Bool.true_or, Bool.or_false, Bool.false_or, Bool.not_true, Bool.not_false, cond_true, cond_false, bI_t, bI_f, Bool.false_eq_true, Bool.true_eq_false, dayC_1, dayC_21, dayC_221, dayC_222, w1W, wrN, wrB_N, wrB_0, wrB_1, w01, wP, wPL, wP01, wL01, wRow, w01R, wAB, wNum, isP, isL]; done))
  subst e31
  refine A_istore 33 dX10_which_31 rfl (by decide) (by first | exact (ast_s (ast_s (ast_s (ast_1 rfl)))) | exact (ast_s (ast_s (ast_s ast_k)))) ?_
  refine A_joinI 47 (fun vj => vj = wWhich x c.2.2.2.2.2.2.2.1 c.2.2.2.2.2.2.2.2 p l0 1) (fun j47 => ?_) (fun v47 e47 => ?_)
  · skip
    refine A_iload 35 dX10_which_33 rfl rfl ?_
    refine A_if_ne 45 38 dX10_which_35 (by decide) rfl (fun c35 => ?_) (fun c35 => ?_)
    · skip
      try simp only [bI_0, bI_n0, Classical.not_not, Bool.not_eq_false, Bool.true_and, Bool.and_true, decide_eq_true_eq, decide_eq_false_iff_not, dayC_1, dayC_21, dayC_221, dayC_222, inI_1, inI_2, inI_3, inI_5, inI_11, inI_16] at c35
      refine A_iload 47 dX10_which_45 rfl rfl ?_
      exact j47 _ (by rw [wWh_eq]; first | (simp only [c35, if_true, if_false, ite_true, ite_false, and_true, true_and, and_false, false_and, and_self, or_true, true_or, or_false, false_or, or_self, not_true_eq_false, not_false_eq_true, decide_true, decide_false, Bool.and_true, Bool.true_and, Bool.and_false, Bool.false_and, Bool.and_self, Bool.or_true, Bool.true_or, Bool.or_false, Bool.false_or, Bool.not_true, Bool.not_false, cond_true, cond_false, bI_t, bI_f, Bool.false_eq_true, Bool.true_eq_false, dayC_1, dayC_21, dayC_221, dayC_222, pk]; done))
    · skip
      try simp only [bI_0, bI_n0, Classical.not_not, Bool.not_eq_false, Bool.true_and, Bool.and_true, decide_eq_true_eq, decide_eq_false_iff_not, dayC_1, dayC_21, dayC_221, dayC_222, inI_1, inI_2, inI_3, inI_5, inI_11, inI_16] at c35
      refine A_aload_n 39 dX10_which_38 rfl rfl rfl ?_
      refine A_callVI 42 (S_X10_wrongRow X l (by first | assumption | decide | omega | exact Ne.symm (by assumption)) (by first | assumption | decide | omega | exact Ne.symm (by assumption)) (by first | assumption | decide | omega | exact Ne.symm (by assumption)) (by first | assumption | decide | omega | exact Ne.symm (by assumption))) dX10_which_39 rfl kX10_wrongRow lk_X10_242 rfl O28 (by decide) rfl (Nat.le_of_ble_eq_true rfl) (fun v_5 h_5 qh_5 => ?_)
      obtain ⟨rfl, rfl⟩ := qh_5
      refine A_goto 47 dX10_which_42 (by decide) ?_
      exact j47 _ (by rw [wWh_eq]; first | (simp only [c35, if_true, if_false, ite_true, ite_false, and_true, true_and, and_false, false_and, and_self, or_true, true_or, or_false, false_or, or_self, not_true_eq_false, not_false_eq_true, decide_true, decide_false, Bool.and_true, Bool.true_and, Bool.and_false, Bool.false_and, Bool.and_self, Bool.or_true, Bool.true_or, Bool.or_false, Bool.false_or, Bool.not_true, Bool.not_false, cond_true, cond_false, bI_t, bI_f, Bool.false_eq_true, Bool.true_eq_false, dayC_1, dayC_21, dayC_221, dayC_222, pk]; done) | (simp only [eq_true c35, if_true, if_false, ite_true, ite_false, and_true, true_and, and_false, false_and, and_self, or_true, true_or, or_false, false_or, or_self, not_true_eq_false, not_false_eq_true, decide_true, decide_false, Bool.and_true, Bool.true_and, Bool.and_false, Bool.false_and, Bool.and_self, Bool.or_true, Bool.true_or, Bool.or_false, Bool.false_or, Bool.not_true, Bool.not_false, cond_true, cond_false, bI_t, bI_f, Bool.false_eq_true, Bool.true_eq_false, dayC_1, dayC_21, dayC_221, dayC_222, pk]; done))
  subst e47
  refine A_istore 49 dX10_which_47 rfl (by decide) (by first | exact (ast_s (ast_s (ast_s (ast_1 rfl)))) | exact (ast_s (ast_s (ast_s ast_k)))) ?_
  refine A_iload 51 dX10_which_49 rfl rfl ?_
  refine A_if_ge 61 54 dX10_which_51 (by decide) rfl (fun c51 => ?_) (fun c51 => ?_)
  · skip
    try simp only [bI_0, bI_n0, Classical.not_not, Bool.not_eq_false, Bool.true_and, Bool.and_true, decide_eq_true_eq, decide_eq_false_iff_not, dayC_1, dayC_21, dayC_221, dayC_222, inI_1, inI_2, inI_3, inI_5, inI_11, inI_16] at c51
    have n51 := c51
    replace c51 := Int32.not_lt.mpr c51
    have hw0 : wWhich x c.2.2.2.2.2.2.2.1 c.2.2.2.2.2.2.2.2 p l0 1 = 0 := cz_pos wWhich_cz c51
    obtain ⟨⟨f1, f1b⟩, f2, f3⟩ := wWhich_0 hw0
    obtain ⟨k_p, rfl, hk_p⟩ := inN_ex f1 (by omega)
    have cl_p : (nI k_p).toNatClampNeg = k_p := nI_clamp (by omega)
    have hk6_p : k_p < 6 := by omega
    obtain ⟨k_l0, rfl, hk_l0⟩ := inN_ex f1b (by omega)
    have cl_l0 : (nI k_l0).toNatClampNeg = k_l0 := nI_clamp (by omega)
    have hk6_l0 : k_l0 < 10 := by omega
    have h12 := rowOK_12 f3
    refine A_iconst 62 (0) dX10_which_61 rfl (by decide) ?_
    refine A_istore 64 dX10_which_62 rfl (by decide) (by first | exact (ast_s (ast_s (ast_s (ast_s (ast_1 rfl))))) | exact (ast_s (ast_s (ast_s (ast_s ast_k))))) ?_
    refine A_aload_n 65 dX10_which_64 rfl rfl rfl ?_
    refine A_callVV 68 (S_X10_think X l (by first | assumption | decide | omega | exact Ne.symm (by assumption))) dX10_which_65 rfl kX10_think lk_X10_175 rfl O28 (by decide) rfl (Nat.le_of_ble_eq_true rfl) (fun h_6 qh_6 => ?_)
    obtain ⟨n0h_6, eh_6⟩ := qh_6
    replace O28 := n0h_6
    replace hf : ∀ i, i ≠ 28 → h_6 i = h i := fun i g0 => (eh_6 i g0).trans (hf i g0)
    refine A_iconst 69 (0) dX10_which_68 rfl (by decide) ?_
    refine A_istore 71 dX10_which_69 rfl (by decide) (by first | exact (ast_s (ast_s (ast_s (ast_s (ast_s (ast_1 rfl)))))) | exact (ast_s (ast_s (ast_s (ast_s (ast_s ast_k)))))) ?_
    have L71 : ∀ (nq i : Nat) (u : Int32) (g71 : Hp) (xx : PW) (rd0 : RD) (rm0 : RM) (tf0 : FI) (r30 : Nat × Int32 × AV) (rs0 : RS), (nq + i = 10) → (foldN (fpF x c.2.2.2.2.2.2.2.1 c.2.2.2.2.2.2.2.2 (x.2.1 k_p) k_l0 1) (0) i = (u)) → ((∀ v, setP xx k_l0 1 v = setP x k_l0 1 v) ∧ xx.2 = x.2) → (g71 28 = some (rB xx (-1) c (rd0, rm0, (enc x, tf0, r30), rs0))) → (∀ i, i ≠ 28 → g71 i = h i) → Av X l mX10_which 71 [some (aR 28 0), some (aI (nI (k_p))), some (aI (nI (k_l0))), some (aI (1)), none, some (aI (u)), some (aI (nI (i)))] [] g71 (QI (fun vr h2 => (rV (wWhich x c.2.2.2.2.2.2.2.1 c.2.2.2.2.2.2.2.2 (nI k_p) (nI k_l0) 1) (aWhich x c.2.2.2.2.2.2.2.1 c.2.2.2.2.2.2.2.2 (nI k_p) (nI k_l0) 1)) = vr ∧ ∃ (z1 : RZ), h2 (28) = some (rB x (-1) (rS (wWhich x c.2.2.2.2.2.2.2.1 c.2.2.2.2.2.2.2.2 (nI k_p) (nI k_l0) 1) c.1, c.2) z1) ∧ ∀ i, i ≠ 28 → h2 i = h i)) := by
      intro nq
      induction nq using Nat.strongRecOn with
      | _ nq ih =>
      intro i u g71 xx rd0 rm0 tf0 r30 rs0 en ee hy O28 hf
      refine A_iload 73 dX10_which_71 rfl rfl ?_
      refine A_iload_n 74 dX10_which_73 rfl rfl rfl ?_
      refine A_if_ne 82 77 dX10_which_74 (by decide) rfl (fun c74 => ?_) (fun c74 => ?_)
      · skip
        refine A_iload_n 83 dX10_which_82 rfl rfl rfl ?_
        refine A_iconst 84 (1) dX10_which_83 rfl (by decide) ?_
        refine A_icmp_ne 92 87 dX10_which_84 (by decide) rfl (fun c84 => ?_) (fun c84 => ?_)
        · skip
          exact absurd c84 (by decide)
        · skip
          refine A_bipush 89 (10) dX10_which_87 rfl (by decide) ?_
          refine A_goto 94 dX10_which_89 (by decide) ?_
          refine A_icmp_ge 194 97 dX10_which_94 (by decide) rfl (fun c94 => ?_) (fun c94 => ?_)
          · skip
            obtain rfl := (up_ge_T (N := 10) c94 rfl (by omega) (by omega)).symm
            refine A_aload_n 195 dX10_which_194 rfl rfl rfl ?_
            refine A_callVV 198 (S_X10_again X l (by first | assumption | decide | omega | exact Ne.symm (by assumption))) dX10_which_195 rfl kX10_again lk_X10_181 rfl O28 (by decide) rfl (Nat.le_of_ble_eq_true rfl) (fun h_7 qh_7 => ?_)
            obtain ⟨n0h_7, eh_7⟩ := qh_7
            replace O28 := n0h_7
            replace hf : ∀ i, i ≠ 28 → h_7 i = h i := fun i g0 => (eh_7 i g0).trans (hf i g0)
            refine A_iload 200 dX10_which_198 rfl rfl ?_
            refine A_iret dX10_which_200 rfl ⟨_, rfl, (by rw [hw0, rV_0]; unfold aWhich pk; rw [cl_p, cl_l0, show (1 : Int32).toNatClampNeg = 1 from rfl]; exact ee), _, (by rw [hw0, rS_0]; exact O28), hf⟩
          · skip
            have hi := up_ge_F (N := 10) c94 rfl (by omega) (by omega)
            obtain ⟨n0, rfl⟩ : ∃ q, nq = q + 1 := ⟨nq - 1, by omega⟩
            refine A_aload_n 98 dX10_which_97 rfl rfl rfl ?_
            refine A_getfield 101 dX10_which_98 rfl f_X10_7 O28 rfl ?_
            refine A_iload_n 102 dX10_which_101 rfl rfl rfl ?_
            refine A_iload_n 103 dX10_which_102 rfl rfl rfl ?_
            refine A_if_ne 111 106 dX10_which_103 (by decide) rfl (fun c103 => ?_) (fun c103 => ?_)
            · skip
              refine A_aload_n 112 dX10_which_111 rfl rfl rfl ?_
              refine A_getfield 115 dX10_which_112 rfl f_X10_7 O28 rfl ?_
              refine A_iload_n 116 dX10_which_115 rfl rfl rfl ?_
              refine A_iaload 117 dX10_which_116 rfl O28 rfl (by first | assumption | exact ix_nI (by omega) (by decide) | exact ix_lit _ rfl (by omega) (by decide) | exact ix_lit _ rfl (by decide) (by decide)) ?_
              try dsimp only
              refine T_X10_0 118 dX10_which_117 rfl O28 (by first | assumption | exact ix_nI (by omega) (by decide) | exact ix_lit _ rfl (by omega) (by decide) | exact ix_lit _ rfl (by decide) (by decide)) (fun h_8 nh_8 eh_8 => ?_)
              replace O28 := nh_8
              replace hf : ∀ i, i ≠ 28 → h_8 i = h i := fun i g0 => (eh_8 i g0).trans (hf i g0)
              try dsimp only at O28
              refine A_aload_n 119 dX10_which_118 rfl rfl rfl ?_
              refine A_getfield 122 dX10_which_119 rfl f_X10_13 O28 rfl ?_
              refine A_iload_n 123 dX10_which_122 rfl rfl rfl ?_
              refine A_iload_n 124 dX10_which_123 rfl rfl rfl ?_
              refine A_iconst 125 (1) dX10_which_124 rfl (by decide) ?_
              refine A_icmp_ne 133 128 dX10_which_125 (by decide) rfl (fun c125 => ?_) (fun c125 => ?_)
              · skip
                exact absurd c125 (by decide)
              · skip
                refine A_iload 130 dX10_which_128 rfl rfl ?_
                refine A_goto 139 dX10_which_130 (by decide) ?_
                refine T_X10_1 140 dX10_which_139 rfl O28 (by first | assumption | exact ix_nI (by omega) (by decide) | exact ix_lit _ rfl (by omega) (by decide) | exact ix_lit _ rfl (by decide) (by decide)) (fun h_9 nh_9 eh_9 => ?_)
                replace O28 := nh_9
                replace hf : ∀ i, i ≠ 28 → h_9 i = h i := fun i g0 => (eh_9 i g0).trans (hf i g0)
                try dsimp only at O28
                refine A_aload_n 141 dX10_which_140 rfl rfl rfl ?_
                refine A_getfield 144 dX10_which_141 rfl f_X10_16 O28 rfl ?_
                refine A_iload_n 145 dX10_which_144 rfl rfl rfl ?_
                refine A_iload_n 146 dX10_which_145 rfl rfl rfl ?_
                refine A_iconst 147 (2) dX10_which_146 rfl (by decide) ?_
                refine A_icmp_ne 155 150 dX10_which_147 (by decide) rfl (fun c147 => ?_) (fun c147 => ?_)
                · skip
                  refine A_aload_n 156 dX10_which_155 rfl rfl rfl ?_
                  refine A_getfield 159 dX10_which_156 rfl f_X10_16 O28 rfl ?_
                  refine A_iload_n 160 dX10_which_159 rfl rfl rfl ?_
                  refine A_iaload 161 dX10_which_160 rfl O28 rfl (by first | assumption | exact ix_nI (by omega) (by decide) | exact ix_lit _ rfl (by omega) (by decide) | exact ix_lit _ rfl (by decide) (by decide)) ?_
                  try dsimp only
                  refine T_X10_2 162 dX10_which_161 rfl O28 (by first | assumption | exact ix_nI (by omega) (by decide) | exact ix_lit _ rfl (by omega) (by decide) | exact ix_lit _ rfl (by decide) (by decide)) (fun h_10 nh_10 eh_10 => ?_)
                  replace O28 := nh_10
                  replace hf : ∀ i, i ≠ 28 → h_10 i = h i := fun i g0 => (eh_10 i g0).trans (hf i g0)
                  try dsimp only at O28
                  replace O28 : h_10 28 = some (rB (setP x k_l0 1 (nI i)) (-1) c (rd0, rm0, (enc x, tf0, r30), rs0)) := by
                    rw [← hy.1]
                    unfold setP
                    first | exact O28 | (simp only [Nat.add_zero, up_same] at O28; exact O28)
                  have hL := hx.sP (k := k_l0) (j := 1) (i := i) (by decide) (by show i < 10; omega)
                  refine A_iload 164 dX10_which_162 rfl rfl ?_
                  refine A_aload_n 165 dX10_which_164 rfl rfl rfl ?_
                  refine A_aload_n 166 dX10_which_165 rfl rfl rfl ?_
                  refine A_getfield 169 dX10_which_166 rfl f_X10_22 O28 rfl ?_
                  refine A_iload_n 170 dX10_which_169 rfl rfl rfl ?_
                  refine A_iaload 171 dX10_which_170 rfl O28 rfl (by first | assumption | exact ix_nI (by omega) (by decide) | exact ix_lit _ rfl (by omega) (by decide) | exact ix_lit _ rfl (by decide) (by decide)) ?_
                  try dsimp only
                  refine A_callVI 174 (S_X10_isRow X l O28 ⟨hL, hW.2⟩ (by omega) hr) dX10_which_171 rfl kX10_isRow lk_X10_239 rfl O28 (by decide) rfl (Nat.le_of_ble_eq_true rfl) (fun v_11 h_11 qh_11 => ?_)
                  obtain ⟨rfl, n0h_11, eh_11⟩ := qh_11
                  replace O28 := n0h_11
                  replace hf : ∀ i, i ≠ 28 → h_11 i = h i := fun i g0 => (eh_11 i g0).trans (hf i g0)
                  rw [show (setP x k_l0 1 (nI i)).2.1 k_p = x.2.1 k_p from rfl]
                  refine A_if_eq 184 177 dX10_which_174 (by decide) rfl (fun c174 => ?_) (fun c174 => ?_)
                  · skip
                    try simp only [bI_0, bI_n0, Classical.not_not, Bool.not_eq_false, Bool.true_and, Bool.and_true, decide_eq_true_eq, decide_eq_false_iff_not, dayC_1, dayC_21, dayC_221, dayC_222, inI_1, inI_2, inI_3, inI_5, inI_11, inI_16] at c174
                    refine A_iconst 185 (0) dX10_which_184 rfl (by decide) ?_
                    refine A_ior 186 dX10_which_185 rfl ?_
                    refine A_istore 188 dX10_which_186 rfl (by decide) (by first | exact (ast_s (ast_s (ast_s (ast_s (ast_1 rfl))))) | exact (ast_s (ast_s (ast_s (ast_s ast_k))))) ?_
                    first | refine A_iincN 191 dX10_which_188 rfl rfl (by decide) (by first | exact (ast_s (ast_s (ast_s (ast_s (ast_s (ast_1 rfl)))))) | exact (ast_s (ast_s (ast_s (ast_s (ast_s ast_k)))))) ?_ | refine A_iinc 191 (1) dX10_which_188 rfl rfl (by decide) (by decide) (by first | exact (ast_s (ast_s (ast_s (ast_s (ast_s (ast_1 rfl)))))) | exact (ast_s (ast_s (ast_s (ast_s (ast_s ast_k)))))) ?_
                    refine A_goto 71 dX10_which_191 (by decide) ?_
                    exact A_weak (ih n0 (Nat.lt_succ_self n0) (i + 1) _ h_11 _ _ _ _ _ _ (by omega) ((foldN_s (fpF x c.2.2.2.2.2.2.2.1 c.2.2.2.2.2.2.2.2 (x.2.1 k_p) k_l0 1) (0) i).trans ((congrArg ((fpF x c.2.2.2.2.2.2.2.1 c.2.2.2.2.2.2.2.2 (x.2.1 k_p) k_l0 1) i) ee).trans (by first | (unfold fpF; rw [if_pos c174]; done) | (unfold fpF; rw [if_neg c174, Int32.or_zero]; done)))) (⟨fun v => setP_setP x k_l0 1 (nI i) v, rfl⟩) O28 hf) (sub_s (sub_s (sub_s (sub_s (sub_n (sub_s (sub_s sub_nil)))))))
                  · skip
                    try simp only [bI_0, bI_n0, Classical.not_not, Bool.not_eq_false, Bool.true_and, Bool.and_true, decide_eq_true_eq, decide_eq_false_iff_not, dayC_1, dayC_21, dayC_221, dayC_222, inI_1, inI_2, inI_3, inI_5, inI_11, inI_16] at c174
                    refine A_iconst 178 (1) dX10_which_177 rfl (by decide) ?_
                    refine A_iload 180 dX10_which_178 rfl rfl ?_
                    refine A_ishl 181 dX10_which_180 rfl ?_
                    rw [sh_one]
                    refine A_goto 185 dX10_which_181 (by decide) ?_
                    refine A_ior 186 dX10_which_185 rfl ?_
                    refine A_istore 188 dX10_which_186 rfl (by decide) (by first | exact (ast_s (ast_s (ast_s (ast_s (ast_1 rfl))))) | exact (ast_s (ast_s (ast_s (ast_s ast_k))))) ?_
                    first | refine A_iincN 191 dX10_which_188 rfl rfl (by decide) (by first | exact (ast_s (ast_s (ast_s (ast_s (ast_s (ast_1 rfl)))))) | exact (ast_s (ast_s (ast_s (ast_s (ast_s ast_k)))))) ?_ | refine A_iinc 191 (1) dX10_which_188 rfl rfl (by decide) (by decide) (by first | exact (ast_s (ast_s (ast_s (ast_s (ast_s (ast_1 rfl)))))) | exact (ast_s (ast_s (ast_s (ast_s (ast_s ast_k)))))) ?_
                    refine A_goto 71 dX10_which_191 (by decide) ?_
                    exact A_weak (ih n0 (Nat.lt_succ_self n0) (i + 1) _ h_11 _ _ _ _ _ _ (by omega) ((foldN_s (fpF x c.2.2.2.2.2.2.2.1 c.2.2.2.2.2.2.2.2 (x.2.1 k_p) k_l0 1) (0) i).trans ((congrArg ((fpF x c.2.2.2.2.2.2.2.1 c.2.2.2.2.2.2.2.2 (x.2.1 k_p) k_l0 1) i) ee).trans (by first | (unfold fpF; rw [if_pos c174]; done) | (unfold fpF; rw [if_neg c174, Int32.or_zero]; done)))) (⟨fun v => setP_setP x k_l0 1 (nI i) v, rfl⟩) O28 hf) (sub_s (sub_s (sub_s (sub_s (sub_n (sub_s (sub_s sub_nil)))))))
                · skip
                  exact absurd c147 (by decide)
            · skip
              exact absurd c103 (by decide)
      · skip
        exact absurd c74 (by decide)
    exact A_weak (L71 (10) (0) (_) h_6 (x) (_) (_) (_) (_) (_) (by omega) (rfl) (⟨fun _ => rfl, rfl⟩) O28 hf) (sub_s (sub_s (sub_s (sub_s (sub_n (sub_s (sub_s sub_nil)))))))
  · skip
    try simp only [bI_0, bI_n0, Classical.not_not, Bool.not_eq_false, Bool.true_and, Bool.and_true, decide_eq_true_eq, decide_eq_false_iff_not, dayC_1, dayC_21, dayC_221, dayC_222, inI_1, inI_2, inI_3, inI_5, inI_11, inI_16] at c51
    have n51 := c51
    replace c51 := Int32.not_le.mp c51
    have hcd : CD (wWhich x c.2.2.2.2.2.2.2.1 c.2.2.2.2.2.2.2.2 p l0 1) := cz_neg wWhich_cz c51
    refine A_aload_n 55 dX10_which_54 rfl rfl rfl ?_
    refine A_iload 57 dX10_which_55 rfl rfl ?_
    refine A_callVI 60 (S_X10_refuse_c X l (by first | assumption | decide | omega | exact Ne.symm (by assumption)) (by first | assumption | (unfold CD; decide))) dX10_which_57 rfl kX10_refuse lk_X10_121 rfl O28 (by decide) rfl (Nat.le_of_ble_eq_true rfl) (fun v_12 h_12 qh_12 => ?_)
    obtain ⟨rfl, n0h_12, eh_12⟩ := qh_12
    replace O28 := n0h_12
    replace hf : ∀ i, i ≠ 28 → h_12 i = h i := fun i g0 => (eh_12 i g0).trans (hf i g0)
    refine A_iret dX10_which_60 rfl ⟨_, rfl, (by exact rV_n hcd.ne), _, O28, hf⟩
set_option maxHeartbeats 4000000 in
set_option maxRecDepth 100000 in
theorem S_X10_which_2 (X : En) (l : Launch) {h : Hp} {x : PW} {c : RC} {z : RZ} (O28 : h 28 = some (rB x (-1) c z)) (hW : WOK x) (hn : c.2.2.2.2.2.2.2.2 ≤ 16) (hr : ∀ k, k < c.2.2.2.2.2.2.2.2 → ¬ c.2.2.2.2.2.2.2.1 k < 0) {p l0 : Int32} : Ct X l mX10_which [aR 28 0, aI p, aI l0, aI 2] h (QI (fun vr h2 => (rV (wWhich x c.2.2.2.2.2.2.2.1 c.2.2.2.2.2.2.2.2 p l0 2) (aWhich x c.2.2.2.2.2.2.2.1 c.2.2.2.2.2.2.2.2 p l0 2)) = vr ∧ ∃ (z1 : RZ), h2 (28) = some (rB x (-1) (rS (wWhich x c.2.2.2.2.2.2.2.1 c.2.2.2.2.2.2.2.2 p l0 2) c.1, c.2) z1) ∧ ∀ i, i ≠ 28 → h2 i = h i)) := by
  have hx := hW.1
  have hp := hW.2.1
  have h10 := hx.1
  have hf : ∀ i, i ≠ 28 → h i = h i := fun _ _ => rfl
  refine Ct.intro [some (aR 28 0), some (aI p), some (aI l0), some (aI 2), none, none, none] (by decide +kernel) rfl (Nat.le_of_ble_eq_true rfl) ?_
  refine A_aload_n 1 dX10_which_0 rfl rfl rfl ?_
  refine A_iconst 2 (0) dX10_which_1 rfl (by decide) ?_
  refine P_X10_9 5 dX10_which_2 rfl fw_X10_78 O28 (fun h_1 nh_1 eh_1 => ?_)
  replace O28 := nh_1
  replace hf : ∀ i, i ≠ 28 → h_1 i = h i := fun i g0 => (eh_1 i g0).trans (hf i g0)
  try dsimp only at O28
  refine A_joinI 31 (fun vj => vj = w1W x p l0 2) (fun j31 => ?_) (fun v31 e31 => ?_)
  · skip
    refine A_aload_n 6 dX10_which_5 rfl rfl rfl ?_
    refine A_iload_n 7 dX10_which_6 rfl rfl rfl ?_
    refine A_callVI 10 (S_X10_isOne X l (by first | assumption | decide | omega | exact Ne.symm (by assumption)) (by first | assumption | decide | omega | exact Ne.symm (by assumption))) dX10_which_7 rfl kX10_isOne lk_X10_160 rfl O28 (by decide) rfl (Nat.le_of_ble_eq_true rfl) (fun v_2 h_2 qh_2 => ?_)
    obtain ⟨rfl, rfl⟩ := qh_2
    refine A_if_eq 30 13 dX10_which_10 (by decide) rfl (fun c10 => ?_) (fun c10 => ?_)
    · skip
      try simp only [bI_0, bI_n0, Classical.not_not, Bool.not_eq_false, Bool.true_and, Bool.and_true, decide_eq_true_eq, decide_eq_false_iff_not, dayC_1, dayC_21, dayC_221, dayC_222, inI_1, inI_2, inI_3, inI_5, inI_11, inI_16] at c10
      refine A_iconst 31 (-1) dX10_which_30 rfl (by decide) ?_
      exact j31 _ (by first | (simp only [c10, if_true, if_false, ite_true, ite_false, and_true, true_and, and_false, false_and, and_self, or_true, true_or, or_false, false_or, or_self, not_true_eq_false, not_false_eq_true, decide_true, decide_false, Bool.and_true, Bool.true_and, Bool.and_false, Bool.false_and, Bool.and_self, Bool.or_true, Bool.true_or, Bool.or_false, Bool.false_or, Bool.not_true, Bool.not_false, cond_true, cond_false, bI_t, bI_f, Bool.false_eq_true, Bool.true_eq_false, dayC_1, dayC_21, dayC_221, dayC_222, w1W, wrB_N, wrB_0, wrB_1, w01, wP, wPL, wP01, wL01, wRow, w01R, wAB, wNum, isP, isL]; done) | (simp only [c10, if_true, if_false, ite_true, ite_false, and_true, true_and, and_false, false_and, and_self, or_true, true_or, or_false, false_or, or_self, not_true_eq_false, not_false_eq_true, decide_true, decide_false, Bool.and_true, Bool.true_and, Bool.and_false, Bool.false_and, Bool.and_self, Bool.or_true, Bool.true_or, Bool.or_false, Bool.false_or, Bool.not_true, Bool.not_false, cond_true, cond_false, bI_t, bI_f, Bool.false_eq_true, Bool.true_eq_false, dayC_1, dayC_21, dayC_221, dayC_222, w1W, wrN, wrB_N, wrB_0, wrB_1, w01, wP, wPL, wP01, wL01, wRow, w01R, wAB, wNum, isP, isL]; done))
    · skip
      try simp only [bI_0, bI_n0, Classical.not_not, Bool.not_eq_false, Bool.true_and, Bool.and_true, decide_eq_true_eq, decide_eq_false_iff_not, dayC_1, dayC_21, dayC_221, dayC_222, inI_1, inI_2, inI_3, inI_5, inI_11, inI_16] at c10
      refine A_aload_n 14 dX10_which_13 rfl rfl rfl ?_
      refine A_iload_n 15 dX10_which_14 rfl rfl rfl ?_
      refine A_callVI 18 (S_X10_isLaw X l (by first | assumption | decide | omega | exact Ne.symm (by assumption)) (by first | assumption | decide | omega | exact Ne.symm (by assumption))) dX10_which_15 rfl kX10_isLaw lk_X10_206 rfl O28 (by decide) rfl (Nat.le_of_ble_eq_true rfl) (fun v_3 h_3 qh_3 => ?_)
      obtain ⟨rfl, rfl⟩ := qh_3
      refine A_if_eq 30 21 dX10_which_18 (by decide) rfl (fun c18 => ?_) (fun c18 => ?_)
      · skip
        try simp only [bI_0, bI_n0, Classical.not_not, Bool.not_eq_false, Bool.true_and, Bool.and_true, decide_eq_true_eq, decide_eq_false_iff_not, dayC_1, dayC_21, dayC_221, dayC_222, inI_1, inI_2, inI_3, inI_5, inI_11, inI_16] at c18
        refine A_iconst 31 (-1) dX10_which_30 rfl (by decide) ?_
        exact j31 _ (by first | (simp only [c10, c18, if_true, if_false, ite_true, ite_false, and_true, true_and, and_false, false_and, and_self, or_true, true_or, or_false, false_or, or_self, not_true_eq_false, not_false_eq_true, decide_true, decide_false, Bool.and_true, Bool.true_and, Bool.and_false, Bool.false_and, Bool.and_self, Bool.or_true, Bool.true_or, Bool.or_false, Bool.false_or, Bool.not_true, Bool.not_false, cond_true, cond_false, bI_t, bI_f, Bool.false_eq_true, Bool.true_eq_false, dayC_1, dayC_21, dayC_221, dayC_222, w1W, wrB_N, wrB_0, wrB_1, w01, wP, wPL, wP01, wL01, wRow, w01R, wAB, wNum, isP, isL]; done) | (simp only [c10, c18, if_true, if_false, ite_true, ite_false, and_true, true_and, and_false, false_and, and_self, or_true, true_or, or_false, false_or, or_self, not_true_eq_false, not_false_eq_true, decide_true, decide_false, Bool.and_true, Bool.true_and, Bool.and_false, Bool.false_and, Bool.and_self, Bool.or_true, Bool.true_or, Bool.or_false, Bool.false_or, Bool.not_true, Bool.not_false, cond_true, cond_false, bI_t, bI_f, Bool.false_eq_true, Bool.true_eq_false, dayC_1, dayC_21, dayC_221, dayC_222, w1W, wrN, wrB_N, wrB_0, wrB_1, w01, wP, wPL, wP01, wL01, wRow, w01R, wAB, wNum, isP, isL]; done))
      · skip
        try simp only [bI_0, bI_n0, Classical.not_not, Bool.not_eq_false, Bool.true_and, Bool.and_true, decide_eq_true_eq, decide_eq_false_iff_not, dayC_1, dayC_21, dayC_221, dayC_222, inI_1, inI_2, inI_3, inI_5, inI_11, inI_16] at c18
        refine A_iconst 22 (0) dX10_which_21 rfl (by decide) ?_
        refine A_iload_n 23 dX10_which_22 rfl rfl rfl ?_
        refine A_iconst 24 (2) dX10_which_23 rfl (by decide) ?_
        refine A_callSI 27 (S_X10_wrongBit X l) dX10_which_24 rfl kX10_wrongBit lk_X10_225 rfl (by decide) rfl (Nat.le_of_ble_eq_true rfl) (fun v_4 h_4 qh_4 => ?_)
        obtain ⟨rfl, rfl⟩ := qh_4
        refine A_goto 31 dX10_which_27 (by decide) ?_
        exact j31 _ (by first | (simp only [c10, c18, if_true, if_false, ite_true, ite_false, and_true, true_and, and_false, false_and, and_self, or_true, true_or, or_false, false_or, or_self, not_true_eq_false, not_false_eq_true, decide_true, decide_false, Bool.and_true, Bool.true_and, Bool.and_false, Bool.false_and, Bool.and_self, Bool.or_true, Bool.true_or, Bool.or_false, Bool.false_or, Bool.not_true, Bool.not_false, cond_true, cond_false, bI_t, bI_f, Bool.false_eq_true, Bool.true_eq_false, dayC_1, dayC_21, dayC_221, dayC_222, w1W, wrB_N, wrB_0, wrB_1, w01, wP, wPL, wP01, wL01, wRow, w01R, wAB, wNum, isP, isL]; done) | (simp only [c10, c18, if_true, if_false, ite_true, ite_false, and_true, true_and, and_false, false_and, and_self, or_true, true_or, or_false, false_or, or_self, not_true_eq_false, not_false_eq_true, decide_true, decide_false, Bool.and_true, Bool.true_and, Bool.and_false, Bool.false_and, Bool.and_self, Bool.or_true, Bool.true_or, Bool.or_false, Bool.false_or, Bool.not_true, Bool.not_false, cond_true, cond_false, bI_t, bI_f, Bool.false_eq_true, Bool.true_eq_false, dayC_1, dayC_21, dayC_221, dayC_222, w1W, wrN, wrB_N, wrB_0, wrB_1, w01, wP, wPL, wP01, wL01, wRow, w01R, wAB, wNum, isP, isL]; done))
  subst e31
  refine A_istore 33 dX10_which_31 rfl (by decide) (by first | exact (ast_s (ast_s (ast_s (ast_1 rfl)))) | exact (ast_s (ast_s (ast_s ast_k)))) ?_
  refine A_joinI 47 (fun vj => vj = wWhich x c.2.2.2.2.2.2.2.1 c.2.2.2.2.2.2.2.2 p l0 2) (fun j47 => ?_) (fun v47 e47 => ?_)
  · skip
    refine A_iload 35 dX10_which_33 rfl rfl ?_
    refine A_if_ne 45 38 dX10_which_35 (by decide) rfl (fun c35 => ?_) (fun c35 => ?_)
    · skip
      try simp only [bI_0, bI_n0, Classical.not_not, Bool.not_eq_false, Bool.true_and, Bool.and_true, decide_eq_true_eq, decide_eq_false_iff_not, dayC_1, dayC_21, dayC_221, dayC_222, inI_1, inI_2, inI_3, inI_5, inI_11, inI_16] at c35
      refine A_iload 47 dX10_which_45 rfl rfl ?_
      exact j47 _ (by rw [wWh_eq]; first | (simp only [c35, if_true, if_false, ite_true, ite_false, and_true, true_and, and_false, false_and, and_self, or_true, true_or, or_false, false_or, or_self, not_true_eq_false, not_false_eq_true, decide_true, decide_false, Bool.and_true, Bool.true_and, Bool.and_false, Bool.false_and, Bool.and_self, Bool.or_true, Bool.true_or, Bool.or_false, Bool.false_or, Bool.not_true, Bool.not_false, cond_true, cond_false, bI_t, bI_f, Bool.false_eq_true, Bool.true_eq_false, dayC_1, dayC_21, dayC_221, dayC_222, pk]; done))
    · skip
      try simp only [bI_0, bI_n0, Classical.not_not, Bool.not_eq_false, Bool.true_and, Bool.and_true, decide_eq_true_eq, decide_eq_false_iff_not, dayC_1, dayC_21, dayC_221, dayC_222, inI_1, inI_2, inI_3, inI_5, inI_11, inI_16] at c35
      refine A_aload_n 39 dX10_which_38 rfl rfl rfl ?_
      refine A_callVI 42 (S_X10_wrongRow X l (by first | assumption | decide | omega | exact Ne.symm (by assumption)) (by first | assumption | decide | omega | exact Ne.symm (by assumption)) (by first | assumption | decide | omega | exact Ne.symm (by assumption)) (by first | assumption | decide | omega | exact Ne.symm (by assumption))) dX10_which_39 rfl kX10_wrongRow lk_X10_242 rfl O28 (by decide) rfl (Nat.le_of_ble_eq_true rfl) (fun v_5 h_5 qh_5 => ?_)
      obtain ⟨rfl, rfl⟩ := qh_5
      refine A_goto 47 dX10_which_42 (by decide) ?_
      exact j47 _ (by rw [wWh_eq]; first | (simp only [c35, if_true, if_false, ite_true, ite_false, and_true, true_and, and_false, false_and, and_self, or_true, true_or, or_false, false_or, or_self, not_true_eq_false, not_false_eq_true, decide_true, decide_false, Bool.and_true, Bool.true_and, Bool.and_false, Bool.false_and, Bool.and_self, Bool.or_true, Bool.true_or, Bool.or_false, Bool.false_or, Bool.not_true, Bool.not_false, cond_true, cond_false, bI_t, bI_f, Bool.false_eq_true, Bool.true_eq_false, dayC_1, dayC_21, dayC_221, dayC_222, pk]; done) | (simp only [eq_true c35, if_true, if_false, ite_true, ite_false, and_true, true_and, and_false, false_and, and_self, or_true, true_or, or_false, false_or, or_self, not_true_eq_false, not_false_eq_true, decide_true, decide_false, Bool.and_true, Bool.true_and, Bool.and_false, Bool.false_and, Bool.and_self, Bool.or_true, Bool.true_or, Bool.or_false, Bool.false_or, Bool.not_true, Bool.not_false, cond_true, cond_false, bI_t, bI_f, Bool.false_eq_true, Bool.true_eq_false, dayC_1, dayC_21, dayC_221, dayC_222, pk]; done))
  subst e47
  refine A_istore 49 dX10_which_47 rfl (by decide) (by first | exact (ast_s (ast_s (ast_s (ast_1 rfl)))) | exact (ast_s (ast_s (ast_s ast_k)))) ?_
  refine A_iload 51 dX10_which_49 rfl rfl ?_
  refine A_if_ge 61 54 dX10_which_51 (by decide) rfl (fun c51 => ?_) (fun c51 => ?_)
  · skip
    try simp only [bI_0, bI_n0, Classical.not_not, Bool.not_eq_false, Bool.true_and, Bool.and_true, decide_eq_true_eq, decide_eq_false_iff_not, dayC_1, dayC_21, dayC_221, dayC_222, inI_1, inI_2, inI_3, inI_5, inI_11, inI_16] at c51
    have n51 := c51
    replace c51 := Int32.not_lt.mpr c51
    have hw0 : wWhich x c.2.2.2.2.2.2.2.1 c.2.2.2.2.2.2.2.2 p l0 2 = 0 := cz_pos wWhich_cz c51
    obtain ⟨⟨f1, f1b⟩, f2, f3⟩ := wWhich_0 hw0
    obtain ⟨k_p, rfl, hk_p⟩ := inN_ex f1 (by omega)
    have cl_p : (nI k_p).toNatClampNeg = k_p := nI_clamp (by omega)
    have hk6_p : k_p < 6 := by omega
    obtain ⟨k_l0, rfl, hk_l0⟩ := inN_ex f1b (by omega)
    have cl_l0 : (nI k_l0).toNatClampNeg = k_l0 := nI_clamp (by omega)
    have hk6_l0 : k_l0 < 10 := by omega
    have h12 := rowOK_12 f3
    refine A_iconst 62 (0) dX10_which_61 rfl (by decide) ?_
    refine A_istore 64 dX10_which_62 rfl (by decide) (by first | exact (ast_s (ast_s (ast_s (ast_s (ast_1 rfl))))) | exact (ast_s (ast_s (ast_s (ast_s ast_k))))) ?_
    refine A_aload_n 65 dX10_which_64 rfl rfl rfl ?_
    refine A_callVV 68 (S_X10_think X l (by first | assumption | decide | omega | exact Ne.symm (by assumption))) dX10_which_65 rfl kX10_think lk_X10_175 rfl O28 (by decide) rfl (Nat.le_of_ble_eq_true rfl) (fun h_6 qh_6 => ?_)
    obtain ⟨n0h_6, eh_6⟩ := qh_6
    replace O28 := n0h_6
    replace hf : ∀ i, i ≠ 28 → h_6 i = h i := fun i g0 => (eh_6 i g0).trans (hf i g0)
    refine A_iconst 69 (0) dX10_which_68 rfl (by decide) ?_
    refine A_istore 71 dX10_which_69 rfl (by decide) (by first | exact (ast_s (ast_s (ast_s (ast_s (ast_s (ast_1 rfl)))))) | exact (ast_s (ast_s (ast_s (ast_s (ast_s ast_k)))))) ?_
    have L71 : ∀ (nq i : Nat) (u : Int32) (g71 : Hp) (xx : PW) (rd0 : RD) (rm0 : RM) (tf0 : FI) (r30 : Nat × Int32 × AV) (rs0 : RS), (nq + i = 8) → (foldN (fpF x c.2.2.2.2.2.2.2.1 c.2.2.2.2.2.2.2.2 (x.2.1 k_p) k_l0 2) (0) i = (u)) → ((∀ v, setP xx k_l0 2 v = setP x k_l0 2 v) ∧ xx.2 = x.2) → (g71 28 = some (rB xx (-1) c (rd0, rm0, (enc x, tf0, r30), rs0))) → (∀ i, i ≠ 28 → g71 i = h i) → Av X l mX10_which 71 [some (aR 28 0), some (aI (nI (k_p))), some (aI (nI (k_l0))), some (aI (2)), none, some (aI (u)), some (aI (nI (i)))] [] g71 (QI (fun vr h2 => (rV (wWhich x c.2.2.2.2.2.2.2.1 c.2.2.2.2.2.2.2.2 (nI k_p) (nI k_l0) 2) (aWhich x c.2.2.2.2.2.2.2.1 c.2.2.2.2.2.2.2.2 (nI k_p) (nI k_l0) 2)) = vr ∧ ∃ (z1 : RZ), h2 (28) = some (rB x (-1) (rS (wWhich x c.2.2.2.2.2.2.2.1 c.2.2.2.2.2.2.2.2 (nI k_p) (nI k_l0) 2) c.1, c.2) z1) ∧ ∀ i, i ≠ 28 → h2 i = h i)) := by
      intro nq
      induction nq using Nat.strongRecOn with
      | _ nq ih =>
      intro i u g71 xx rd0 rm0 tf0 r30 rs0 en ee hy O28 hf
      refine A_iload 73 dX10_which_71 rfl rfl ?_
      refine A_iload_n 74 dX10_which_73 rfl rfl rfl ?_
      refine A_if_ne 82 77 dX10_which_74 (by decide) rfl (fun c74 => ?_) (fun c74 => ?_)
      · skip
        refine A_iload_n 83 dX10_which_82 rfl rfl rfl ?_
        refine A_iconst 84 (1) dX10_which_83 rfl (by decide) ?_
        refine A_icmp_ne 92 87 dX10_which_84 (by decide) rfl (fun c84 => ?_) (fun c84 => ?_)
        · skip
          refine A_bipush 94 (8) dX10_which_92 rfl (by decide) ?_
          refine A_icmp_ge 194 97 dX10_which_94 (by decide) rfl (fun c94 => ?_) (fun c94 => ?_)
          · skip
            obtain rfl := (up_ge_T (N := 8) c94 rfl (by omega) (by omega)).symm
            refine A_aload_n 195 dX10_which_194 rfl rfl rfl ?_
            refine A_callVV 198 (S_X10_again X l (by first | assumption | decide | omega | exact Ne.symm (by assumption))) dX10_which_195 rfl kX10_again lk_X10_181 rfl O28 (by decide) rfl (Nat.le_of_ble_eq_true rfl) (fun h_7 qh_7 => ?_)
            obtain ⟨n0h_7, eh_7⟩ := qh_7
            replace O28 := n0h_7
            replace hf : ∀ i, i ≠ 28 → h_7 i = h i := fun i g0 => (eh_7 i g0).trans (hf i g0)
            refine A_iload 200 dX10_which_198 rfl rfl ?_
            refine A_iret dX10_which_200 rfl ⟨_, rfl, (by rw [hw0, rV_0]; unfold aWhich pk; rw [cl_p, cl_l0, show (2 : Int32).toNatClampNeg = 2 from rfl]; exact ee), _, (by rw [hw0, rS_0]; exact O28), hf⟩
          · skip
            have hi := up_ge_F (N := 8) c94 rfl (by omega) (by omega)
            obtain ⟨n0, rfl⟩ : ∃ q, nq = q + 1 := ⟨nq - 1, by omega⟩
            refine A_aload_n 98 dX10_which_97 rfl rfl rfl ?_
            refine A_getfield 101 dX10_which_98 rfl f_X10_7 O28 rfl ?_
            refine A_iload_n 102 dX10_which_101 rfl rfl rfl ?_
            refine A_iload_n 103 dX10_which_102 rfl rfl rfl ?_
            refine A_if_ne 111 106 dX10_which_103 (by decide) rfl (fun c103 => ?_) (fun c103 => ?_)
            · skip
              refine A_aload_n 112 dX10_which_111 rfl rfl rfl ?_
              refine A_getfield 115 dX10_which_112 rfl f_X10_7 O28 rfl ?_
              refine A_iload_n 116 dX10_which_115 rfl rfl rfl ?_
              refine A_iaload 117 dX10_which_116 rfl O28 rfl (by first | assumption | exact ix_nI (by omega) (by decide) | exact ix_lit _ rfl (by omega) (by decide) | exact ix_lit _ rfl (by decide) (by decide)) ?_
              try dsimp only
              refine T_X10_0 118 dX10_which_117 rfl O28 (by first | assumption | exact ix_nI (by omega) (by decide) | exact ix_lit _ rfl (by omega) (by decide) | exact ix_lit _ rfl (by decide) (by decide)) (fun h_8 nh_8 eh_8 => ?_)
              replace O28 := nh_8
              replace hf : ∀ i, i ≠ 28 → h_8 i = h i := fun i g0 => (eh_8 i g0).trans (hf i g0)
              try dsimp only at O28
              refine A_aload_n 119 dX10_which_118 rfl rfl rfl ?_
              refine A_getfield 122 dX10_which_119 rfl f_X10_13 O28 rfl ?_
              refine A_iload_n 123 dX10_which_122 rfl rfl rfl ?_
              refine A_iload_n 124 dX10_which_123 rfl rfl rfl ?_
              refine A_iconst 125 (1) dX10_which_124 rfl (by decide) ?_
              refine A_icmp_ne 133 128 dX10_which_125 (by decide) rfl (fun c125 => ?_) (fun c125 => ?_)
              · skip
                refine A_aload_n 134 dX10_which_133 rfl rfl rfl ?_
                refine A_getfield 137 dX10_which_134 rfl f_X10_13 O28 rfl ?_
                refine A_iload_n 138 dX10_which_137 rfl rfl rfl ?_
                refine A_iaload 139 dX10_which_138 rfl O28 rfl (by first | assumption | exact ix_nI (by omega) (by decide) | exact ix_lit _ rfl (by omega) (by decide) | exact ix_lit _ rfl (by decide) (by decide)) ?_
                try dsimp only
                refine T_X10_1 140 dX10_which_139 rfl O28 (by first | assumption | exact ix_nI (by omega) (by decide) | exact ix_lit _ rfl (by omega) (by decide) | exact ix_lit _ rfl (by decide) (by decide)) (fun h_9 nh_9 eh_9 => ?_)
                replace O28 := nh_9
                replace hf : ∀ i, i ≠ 28 → h_9 i = h i := fun i g0 => (eh_9 i g0).trans (hf i g0)
                try dsimp only at O28
                refine A_aload_n 141 dX10_which_140 rfl rfl rfl ?_
                refine A_getfield 144 dX10_which_141 rfl f_X10_16 O28 rfl ?_
                refine A_iload_n 145 dX10_which_144 rfl rfl rfl ?_
                refine A_iload_n 146 dX10_which_145 rfl rfl rfl ?_
                refine A_iconst 147 (2) dX10_which_146 rfl (by decide) ?_
                refine A_icmp_ne 155 150 dX10_which_147 (by decide) rfl (fun c147 => ?_) (fun c147 => ?_)
                · skip
                  exact absurd c147 (by decide)
                · skip
                  refine A_iload 152 dX10_which_150 rfl rfl ?_
                  refine A_goto 161 dX10_which_152 (by decide) ?_
                  refine T_X10_2 162 dX10_which_161 rfl O28 (by first | assumption | exact ix_nI (by omega) (by decide) | exact ix_lit _ rfl (by omega) (by decide) | exact ix_lit _ rfl (by decide) (by decide)) (fun h_10 nh_10 eh_10 => ?_)
                  replace O28 := nh_10
                  replace hf : ∀ i, i ≠ 28 → h_10 i = h i := fun i g0 => (eh_10 i g0).trans (hf i g0)
                  try dsimp only at O28
                  replace O28 : h_10 28 = some (rB (setP x k_l0 2 (nI i)) (-1) c (rd0, rm0, (enc x, tf0, r30), rs0)) := by
                    rw [← hy.1]
                    unfold setP
                    first | exact O28 | (simp only [Nat.add_zero, up_same] at O28; exact O28)
                  have hL := hx.sP (k := k_l0) (j := 2) (i := i) (by decide) (by show i < 8; omega)
                  refine A_iload 164 dX10_which_162 rfl rfl ?_
                  refine A_aload_n 165 dX10_which_164 rfl rfl rfl ?_
                  refine A_aload_n 166 dX10_which_165 rfl rfl rfl ?_
                  refine A_getfield 169 dX10_which_166 rfl f_X10_22 O28 rfl ?_
                  refine A_iload_n 170 dX10_which_169 rfl rfl rfl ?_
                  refine A_iaload 171 dX10_which_170 rfl O28 rfl (by first | assumption | exact ix_nI (by omega) (by decide) | exact ix_lit _ rfl (by omega) (by decide) | exact ix_lit _ rfl (by decide) (by decide)) ?_
                  try dsimp only
                  refine A_callVI 174 (S_X10_isRow X l O28 ⟨hL, hW.2⟩ (by omega) hr) dX10_which_171 rfl kX10_isRow lk_X10_239 rfl O28 (by decide) rfl (Nat.le_of_ble_eq_true rfl) (fun v_11 h_11 qh_11 => ?_)
                  obtain ⟨rfl, n0h_11, eh_11⟩ := qh_11
                  replace O28 := n0h_11
                  replace hf : ∀ i, i ≠ 28 → h_11 i = h i := fun i g0 => (eh_11 i g0).trans (hf i g0)
                  rw [show (setP x k_l0 2 (nI i)).2.1 k_p = x.2.1 k_p from rfl]
                  refine A_if_eq 184 177 dX10_which_174 (by decide) rfl (fun c174 => ?_) (fun c174 => ?_)
                  · skip
                    try simp only [bI_0, bI_n0, Classical.not_not, Bool.not_eq_false, Bool.true_and, Bool.and_true, decide_eq_true_eq, decide_eq_false_iff_not, dayC_1, dayC_21, dayC_221, dayC_222, inI_1, inI_2, inI_3, inI_5, inI_11, inI_16] at c174
                    refine A_iconst 185 (0) dX10_which_184 rfl (by decide) ?_
                    refine A_ior 186 dX10_which_185 rfl ?_
                    refine A_istore 188 dX10_which_186 rfl (by decide) (by first | exact (ast_s (ast_s (ast_s (ast_s (ast_1 rfl))))) | exact (ast_s (ast_s (ast_s (ast_s ast_k))))) ?_
                    first | refine A_iincN 191 dX10_which_188 rfl rfl (by decide) (by first | exact (ast_s (ast_s (ast_s (ast_s (ast_s (ast_1 rfl)))))) | exact (ast_s (ast_s (ast_s (ast_s (ast_s ast_k)))))) ?_ | refine A_iinc 191 (1) dX10_which_188 rfl rfl (by decide) (by decide) (by first | exact (ast_s (ast_s (ast_s (ast_s (ast_s (ast_1 rfl)))))) | exact (ast_s (ast_s (ast_s (ast_s (ast_s ast_k)))))) ?_
                    refine A_goto 71 dX10_which_191 (by decide) ?_
                    exact A_weak (ih n0 (Nat.lt_succ_self n0) (i + 1) _ h_11 _ _ _ _ _ _ (by omega) ((foldN_s (fpF x c.2.2.2.2.2.2.2.1 c.2.2.2.2.2.2.2.2 (x.2.1 k_p) k_l0 2) (0) i).trans ((congrArg ((fpF x c.2.2.2.2.2.2.2.1 c.2.2.2.2.2.2.2.2 (x.2.1 k_p) k_l0 2) i) ee).trans (by first | (unfold fpF; rw [if_pos c174]; done) | (unfold fpF; rw [if_neg c174, Int32.or_zero]; done)))) (⟨fun v => setP_setP x k_l0 2 (nI i) v, rfl⟩) O28 hf) (sub_s (sub_s (sub_s (sub_s (sub_n (sub_s (sub_s sub_nil)))))))
                  · skip
                    try simp only [bI_0, bI_n0, Classical.not_not, Bool.not_eq_false, Bool.true_and, Bool.and_true, decide_eq_true_eq, decide_eq_false_iff_not, dayC_1, dayC_21, dayC_221, dayC_222, inI_1, inI_2, inI_3, inI_5, inI_11, inI_16] at c174
                    refine A_iconst 178 (1) dX10_which_177 rfl (by decide) ?_
                    refine A_iload 180 dX10_which_178 rfl rfl ?_
                    refine A_ishl 181 dX10_which_180 rfl ?_
                    rw [sh_one]
                    refine A_goto 185 dX10_which_181 (by decide) ?_
                    refine A_ior 186 dX10_which_185 rfl ?_
                    refine A_istore 188 dX10_which_186 rfl (by decide) (by first | exact (ast_s (ast_s (ast_s (ast_s (ast_1 rfl))))) | exact (ast_s (ast_s (ast_s (ast_s ast_k))))) ?_
                    first | refine A_iincN 191 dX10_which_188 rfl rfl (by decide) (by first | exact (ast_s (ast_s (ast_s (ast_s (ast_s (ast_1 rfl)))))) | exact (ast_s (ast_s (ast_s (ast_s (ast_s ast_k)))))) ?_ | refine A_iinc 191 (1) dX10_which_188 rfl rfl (by decide) (by decide) (by first | exact (ast_s (ast_s (ast_s (ast_s (ast_s (ast_1 rfl)))))) | exact (ast_s (ast_s (ast_s (ast_s (ast_s ast_k)))))) ?_
                    refine A_goto 71 dX10_which_191 (by decide) ?_
                    exact A_weak (ih n0 (Nat.lt_succ_self n0) (i + 1) _ h_11 _ _ _ _ _ _ (by omega) ((foldN_s (fpF x c.2.2.2.2.2.2.2.1 c.2.2.2.2.2.2.2.2 (x.2.1 k_p) k_l0 2) (0) i).trans ((congrArg ((fpF x c.2.2.2.2.2.2.2.1 c.2.2.2.2.2.2.2.2 (x.2.1 k_p) k_l0 2) i) ee).trans (by first | (unfold fpF; rw [if_pos c174]; done) | (unfold fpF; rw [if_neg c174, Int32.or_zero]; done)))) (⟨fun v => setP_setP x k_l0 2 (nI i) v, rfl⟩) O28 hf) (sub_s (sub_s (sub_s (sub_s (sub_n (sub_s (sub_s sub_nil)))))))
              · skip
                exact absurd c125 (by decide)
            · skip
              exact absurd c103 (by decide)
        · skip
          exact absurd c84 (by decide)
      · skip
        exact absurd c74 (by decide)
    exact A_weak (L71 (8) (0) (_) h_6 (x) (_) (_) (_) (_) (_) (by omega) (rfl) (⟨fun _ => rfl, rfl⟩) O28 hf) (sub_s (sub_s (sub_s (sub_s (sub_n (sub_s (sub_s sub_nil)))))))
  · skip
    try simp only [bI_0, bI_n0, Classical.not_not, Bool.not_eq_false, Bool.true_and, Bool.and_true, decide_eq_true_eq, decide_eq_false_iff_not, dayC_1, dayC_21, dayC_221, dayC_222, inI_1, inI_2, inI_3, inI_5, inI_11, inI_16] at c51
    have n51 := c51
    replace c51 := Int32.not_le.mp c51
    have hcd : CD (wWhich x c.2.2.2.2.2.2.2.1 c.2.2.2.2.2.2.2.2 p l0 2) := cz_neg wWhich_cz c51
    refine A_aload_n 55 dX10_which_54 rfl rfl rfl ?_
    refine A_iload 57 dX10_which_55 rfl rfl ?_
    refine A_callVI 60 (S_X10_refuse_c X l (by first | assumption | decide | omega | exact Ne.symm (by assumption)) (by first | assumption | (unfold CD; decide))) dX10_which_57 rfl kX10_refuse lk_X10_121 rfl O28 (by decide) rfl (Nat.le_of_ble_eq_true rfl) (fun v_12 h_12 qh_12 => ?_)
    obtain ⟨rfl, n0h_12, eh_12⟩ := qh_12
    replace O28 := n0h_12
    replace hf : ∀ i, i ≠ 28 → h_12 i = h i := fun i g0 => (eh_12 i g0).trans (hf i g0)
    refine A_iret dX10_which_60 rfl ⟨_, rfl, (by exact rV_n hcd.ne), _, O28, hf⟩
set_option maxHeartbeats 4000000 in
set_option maxRecDepth 100000 in
theorem S_X10_which_o (X : En) (l : Launch) {h : Hp} {x : PW} {c : RC} {z : RZ} (O28 : h 28 = some (rB x (-1) c z)) (hW : WOK x) (hn : c.2.2.2.2.2.2.2.2 ≤ 16) (hr : ∀ k, k < c.2.2.2.2.2.2.2.2 → ¬ c.2.2.2.2.2.2.2.1 k < 0) {v : Int32} (hv : v < 0 ∨ 2 < v) {p l0 : Int32} : Ct X l mX10_which [aR 28 0, aI p, aI l0, aI v] h (QI (fun vr h2 => (rV (wWhich x c.2.2.2.2.2.2.2.1 c.2.2.2.2.2.2.2.2 p l0 v) (aWhich x c.2.2.2.2.2.2.2.1 c.2.2.2.2.2.2.2.2 p l0 v)) = vr ∧ ∃ (z1 : RZ), h2 (28) = some (rB x (-1) (rS (wWhich x c.2.2.2.2.2.2.2.1 c.2.2.2.2.2.2.2.2 p l0 v) c.1, c.2) z1) ∧ ∀ i, i ≠ 28 → h2 i = h i)) := by
  have hx := hW.1
  have hp := hW.2.1
  have h10 := hx.1
  have hf : ∀ i, i ≠ 28 → h i = h i := fun _ _ => rfl
  refine Ct.intro [some (aR 28 0), some (aI p), some (aI l0), some (aI v), none, none, none] (by decide +kernel) rfl (Nat.le_of_ble_eq_true rfl) ?_
  refine A_aload_n 1 dX10_which_0 rfl rfl rfl ?_
  refine A_iconst 2 (0) dX10_which_1 rfl (by decide) ?_
  refine P_X10_9 5 dX10_which_2 rfl fw_X10_78 O28 (fun h_1 nh_1 eh_1 => ?_)
  replace O28 := nh_1
  replace hf : ∀ i, i ≠ 28 → h_1 i = h i := fun i g0 => (eh_1 i g0).trans (hf i g0)
  try dsimp only at O28
  refine A_joinI 31 (fun vj => vj = w1W x p l0 v) (fun j31 => ?_) (fun v31 e31 => ?_)
  · skip
    refine A_aload_n 6 dX10_which_5 rfl rfl rfl ?_
    refine A_iload_n 7 dX10_which_6 rfl rfl rfl ?_
    refine A_callVI 10 (S_X10_isOne X l (by first | assumption | decide | omega | exact Ne.symm (by assumption)) (by first | assumption | decide | omega | exact Ne.symm (by assumption))) dX10_which_7 rfl kX10_isOne lk_X10_160 rfl O28 (by decide) rfl (Nat.le_of_ble_eq_true rfl) (fun v_2 h_2 qh_2 => ?_)
    obtain ⟨rfl, rfl⟩ := qh_2
    refine A_if_eq 30 13 dX10_which_10 (by decide) rfl (fun c10 => ?_) (fun c10 => ?_)
    · skip
      try simp only [bI_0, bI_n0, Classical.not_not, Bool.not_eq_false, Bool.true_and, Bool.and_true, decide_eq_true_eq, decide_eq_false_iff_not, dayC_1, dayC_21, dayC_221, dayC_222, inI_1, inI_2, inI_3, inI_5, inI_11, inI_16] at c10
      refine A_iconst 31 (-1) dX10_which_30 rfl (by decide) ?_
      exact j31 _ (by first | (simp only [c10, if_true, if_false, ite_true, ite_false, and_true, true_and, and_false, false_and, and_self, or_true, true_or, or_false, false_or, or_self, not_true_eq_false, not_false_eq_true, decide_true, decide_false, Bool.and_true, Bool.true_and, Bool.and_false, Bool.false_and, Bool.and_self, Bool.or_true, Bool.true_or, Bool.or_false, Bool.false_or, Bool.not_true, Bool.not_false, cond_true, cond_false, bI_t, bI_f, Bool.false_eq_true, Bool.true_eq_false, dayC_1, dayC_21, dayC_221, dayC_222, w1W, wrB_N, wrB_0, wrB_1, w01, wP, wPL, wP01, wL01, wRow, w01R, wAB, wNum, isP, isL]; done) | (simp only [c10, if_true, if_false, ite_true, ite_false, and_true, true_and, and_false, false_and, and_self, or_true, true_or, or_false, false_or, or_self, not_true_eq_false, not_false_eq_true, decide_true, decide_false, Bool.and_true, Bool.true_and, Bool.and_false, Bool.false_and, Bool.and_self, Bool.or_true, Bool.true_or, Bool.or_false, Bool.false_or, Bool.not_true, Bool.not_false, cond_true, cond_false, bI_t, bI_f, Bool.false_eq_true, Bool.true_eq_false, dayC_1, dayC_21, dayC_221, dayC_222, w1W, wrN, wrB_N, wrB_0, wrB_1, w01, wP, wPL, wP01, wL01, wRow, w01R, wAB, wNum, isP, isL]; done))
    · skip
      try simp only [bI_0, bI_n0, Classical.not_not, Bool.not_eq_false, Bool.true_and, Bool.and_true, decide_eq_true_eq, decide_eq_false_iff_not, dayC_1, dayC_21, dayC_221, dayC_222, inI_1, inI_2, inI_3, inI_5, inI_11, inI_16] at c10
      refine A_aload_n 14 dX10_which_13 rfl rfl rfl ?_
      refine A_iload_n 15 dX10_which_14 rfl rfl rfl ?_
      refine A_callVI 18 (S_X10_isLaw X l (by first | assumption | decide | omega | exact Ne.symm (by assumption)) (by first | assumption | decide | omega | exact Ne.symm (by assumption))) dX10_which_15 rfl kX10_isLaw lk_X10_206 rfl O28 (by decide) rfl (Nat.le_of_ble_eq_true rfl) (fun v_3 h_3 qh_3 => ?_)
      obtain ⟨rfl, rfl⟩ := qh_3
      refine A_if_eq 30 21 dX10_which_18 (by decide) rfl (fun c18 => ?_) (fun c18 => ?_)
      · skip
        try simp only [bI_0, bI_n0, Classical.not_not, Bool.not_eq_false, Bool.true_and, Bool.and_true, decide_eq_true_eq, decide_eq_false_iff_not, dayC_1, dayC_21, dayC_221, dayC_222, inI_1, inI_2, inI_3, inI_5, inI_11, inI_16] at c18
        refine A_iconst 31 (-1) dX10_which_30 rfl (by decide) ?_
        exact j31 _ (by first | (simp only [c10, c18, if_true, if_false, ite_true, ite_false, and_true, true_and, and_false, false_and, and_self, or_true, true_or, or_false, false_or, or_self, not_true_eq_false, not_false_eq_true, decide_true, decide_false, Bool.and_true, Bool.true_and, Bool.and_false, Bool.false_and, Bool.and_self, Bool.or_true, Bool.true_or, Bool.or_false, Bool.false_or, Bool.not_true, Bool.not_false, cond_true, cond_false, bI_t, bI_f, Bool.false_eq_true, Bool.true_eq_false, dayC_1, dayC_21, dayC_221, dayC_222, w1W, wrB_N, wrB_0, wrB_1, w01, wP, wPL, wP01, wL01, wRow, w01R, wAB, wNum, isP, isL]; done) | (simp only [c10, c18, if_true, if_false, ite_true, ite_false, and_true, true_and, and_false, false_and, and_self, or_true, true_or, or_false, false_or, or_self, not_true_eq_false, not_false_eq_true, decide_true, decide_false, Bool.and_true, Bool.true_and, Bool.and_false, Bool.false_and, Bool.and_self, Bool.or_true, Bool.true_or, Bool.or_false, Bool.false_or, Bool.not_true, Bool.not_false, cond_true, cond_false, bI_t, bI_f, Bool.false_eq_true, Bool.true_eq_false, dayC_1, dayC_21, dayC_221, dayC_222, w1W, wrN, wrB_N, wrB_0, wrB_1, w01, wP, wPL, wP01, wL01, wRow, w01R, wAB, wNum, isP, isL]; done))
      · skip
        try simp only [bI_0, bI_n0, Classical.not_not, Bool.not_eq_false, Bool.true_and, Bool.and_true, decide_eq_true_eq, decide_eq_false_iff_not, dayC_1, dayC_21, dayC_221, dayC_222, inI_1, inI_2, inI_3, inI_5, inI_11, inI_16] at c18
        refine A_iconst 22 (0) dX10_which_21 rfl (by decide) ?_
        refine A_iload_n 23 dX10_which_22 rfl rfl rfl ?_
        refine A_iconst 24 (2) dX10_which_23 rfl (by decide) ?_
        refine A_callSI 27 (S_X10_wrongBit X l) dX10_which_24 rfl kX10_wrongBit lk_X10_225 rfl (by decide) rfl (Nat.le_of_ble_eq_true rfl) (fun v_4 h_4 qh_4 => ?_)
        obtain ⟨rfl, rfl⟩ := qh_4
        refine A_goto 31 dX10_which_27 (by decide) ?_
        exact j31 _ (by first | (simp only [c10, c18, if_true, if_false, ite_true, ite_false, and_true, true_and, and_false, false_and, and_self, or_true, true_or, or_false, false_or, or_self, not_true_eq_false, not_false_eq_true, decide_true, decide_false, Bool.and_true, Bool.true_and, Bool.and_false, Bool.false_and, Bool.and_self, Bool.or_true, Bool.true_or, Bool.or_false, Bool.false_or, Bool.not_true, Bool.not_false, cond_true, cond_false, bI_t, bI_f, Bool.false_eq_true, Bool.true_eq_false, dayC_1, dayC_21, dayC_221, dayC_222, w1W, wrB_N, wrB_0, wrB_1, w01, wP, wPL, wP01, wL01, wRow, w01R, wAB, wNum, isP, isL]; done) | (simp only [c10, c18, if_true, if_false, ite_true, ite_false, and_true, true_and, and_false, false_and, and_self, or_true, true_or, or_false, false_or, or_self, not_true_eq_false, not_false_eq_true, decide_true, decide_false, Bool.and_true, Bool.true_and, Bool.and_false, Bool.false_and, Bool.and_self, Bool.or_true, Bool.true_or, Bool.or_false, Bool.false_or, Bool.not_true, Bool.not_false, cond_true, cond_false, bI_t, bI_f, Bool.false_eq_true, Bool.true_eq_false, dayC_1, dayC_21, dayC_221, dayC_222, w1W, wrN, wrB_N, wrB_0, wrB_1, w01, wP, wPL, wP01, wL01, wRow, w01R, wAB, wNum, isP, isL]; done))
  subst e31
  refine A_istore 33 dX10_which_31 rfl (by decide) (by first | exact (ast_s (ast_s (ast_s (ast_1 rfl)))) | exact (ast_s (ast_s (ast_s ast_k)))) ?_
  refine A_joinI 47 (fun vj => vj = wWhich x c.2.2.2.2.2.2.2.1 c.2.2.2.2.2.2.2.2 p l0 v) (fun j47 => ?_) (fun v47 e47 => ?_)
  · skip
    refine A_iload 35 dX10_which_33 rfl rfl ?_
    refine A_if_ne 45 38 dX10_which_35 (by decide) rfl (fun c35 => ?_) (fun c35 => ?_)
    · skip
      try simp only [bI_0, bI_n0, Classical.not_not, Bool.not_eq_false, Bool.true_and, Bool.and_true, decide_eq_true_eq, decide_eq_false_iff_not, dayC_1, dayC_21, dayC_221, dayC_222, inI_1, inI_2, inI_3, inI_5, inI_11, inI_16] at c35
      refine A_iload 47 dX10_which_45 rfl rfl ?_
      exact j47 _ (by rw [wWh_eq]; first | (simp only [c35, if_true, if_false, ite_true, ite_false, and_true, true_and, and_false, false_and, and_self, or_true, true_or, or_false, false_or, or_self, not_true_eq_false, not_false_eq_true, decide_true, decide_false, Bool.and_true, Bool.true_and, Bool.and_false, Bool.false_and, Bool.and_self, Bool.or_true, Bool.true_or, Bool.or_false, Bool.false_or, Bool.not_true, Bool.not_false, cond_true, cond_false, bI_t, bI_f, Bool.false_eq_true, Bool.true_eq_false, dayC_1, dayC_21, dayC_221, dayC_222, pk]; done))
    · skip
      try simp only [bI_0, bI_n0, Classical.not_not, Bool.not_eq_false, Bool.true_and, Bool.and_true, decide_eq_true_eq, decide_eq_false_iff_not, dayC_1, dayC_21, dayC_221, dayC_222, inI_1, inI_2, inI_3, inI_5, inI_11, inI_16] at c35
      refine A_aload_n 39 dX10_which_38 rfl rfl rfl ?_
      refine A_callVI 42 (S_X10_wrongRow X l (by first | assumption | decide | omega | exact Ne.symm (by assumption)) (by first | assumption | decide | omega | exact Ne.symm (by assumption)) (by first | assumption | decide | omega | exact Ne.symm (by assumption)) (by first | assumption | decide | omega | exact Ne.symm (by assumption))) dX10_which_39 rfl kX10_wrongRow lk_X10_242 rfl O28 (by decide) rfl (Nat.le_of_ble_eq_true rfl) (fun v_5 h_5 qh_5 => ?_)
      obtain ⟨rfl, rfl⟩ := qh_5
      refine A_goto 47 dX10_which_42 (by decide) ?_
      exact j47 _ (by rw [wWh_eq]; first | (simp only [c35, if_true, if_false, ite_true, ite_false, and_true, true_and, and_false, false_and, and_self, or_true, true_or, or_false, false_or, or_self, not_true_eq_false, not_false_eq_true, decide_true, decide_false, Bool.and_true, Bool.true_and, Bool.and_false, Bool.false_and, Bool.and_self, Bool.or_true, Bool.true_or, Bool.or_false, Bool.false_or, Bool.not_true, Bool.not_false, cond_true, cond_false, bI_t, bI_f, Bool.false_eq_true, Bool.true_eq_false, dayC_1, dayC_21, dayC_221, dayC_222, pk]; done) | (simp only [eq_true c35, if_true, if_false, ite_true, ite_false, and_true, true_and, and_false, false_and, and_self, or_true, true_or, or_false, false_or, or_self, not_true_eq_false, not_false_eq_true, decide_true, decide_false, Bool.and_true, Bool.true_and, Bool.and_false, Bool.false_and, Bool.and_self, Bool.or_true, Bool.true_or, Bool.or_false, Bool.false_or, Bool.not_true, Bool.not_false, cond_true, cond_false, bI_t, bI_f, Bool.false_eq_true, Bool.true_eq_false, dayC_1, dayC_21, dayC_221, dayC_222, pk]; done))
  subst e47
  refine A_istore 49 dX10_which_47 rfl (by decide) (by first | exact (ast_s (ast_s (ast_s (ast_1 rfl)))) | exact (ast_s (ast_s (ast_s ast_k)))) ?_
  refine A_iload 51 dX10_which_49 rfl rfl ?_
  refine A_if_ge 61 54 dX10_which_51 (by decide) rfl (fun c51 => ?_) (fun c51 => ?_)
  · skip
    have hw0 : wWhich x c.2.2.2.2.2.2.2.1 c.2.2.2.2.2.2.2.2 p l0 v = 0 := cz_pos wWhich_cz (Int32.not_lt.mpr c51)
    obtain ⟨⟨f1, f1b⟩, f2, f3⟩ := wWhich_0 hw0
    exact absurd hv f2
  · skip
    try simp only [bI_0, bI_n0, Classical.not_not, Bool.not_eq_false, Bool.true_and, Bool.and_true, decide_eq_true_eq, decide_eq_false_iff_not, dayC_1, dayC_21, dayC_221, dayC_222, inI_1, inI_2, inI_3, inI_5, inI_11, inI_16] at c51
    have n51 := c51
    replace c51 := Int32.not_le.mp c51
    have hcd : CD (wWhich x c.2.2.2.2.2.2.2.1 c.2.2.2.2.2.2.2.2 p l0 v) := cz_neg wWhich_cz c51
    refine A_aload_n 55 dX10_which_54 rfl rfl rfl ?_
    refine A_iload 57 dX10_which_55 rfl rfl ?_
    refine A_callVI 60 (S_X10_refuse_c X l (by first | assumption | decide | omega | exact Ne.symm (by assumption)) (by first | assumption | (unfold CD; decide))) dX10_which_57 rfl kX10_refuse lk_X10_121 rfl O28 (by decide) rfl (Nat.le_of_ble_eq_true rfl) (fun v_6 h_6 qh_6 => ?_)
    obtain ⟨rfl, n0h_6, eh_6⟩ := qh_6
    replace O28 := n0h_6
    replace hf : ∀ i, i ≠ 28 → h_6 i = h i := fun i g0 => (eh_6 i g0).trans (hf i g0)
    refine A_iret dX10_which_60 rfl ⟨_, rfl, (by exact rV_n hcd.ne), _, O28, hf⟩
theorem S_X10_which (X : En) (l : Launch) {h : Hp} {x : PW} {c : RC} {z : RZ} (O28 : h 28 = some (rB x (-1) c z)) (hW : WOK x) (hn : c.2.2.2.2.2.2.2.2 ≤ 16) (hr : ∀ k, k < c.2.2.2.2.2.2.2.2 → ¬ c.2.2.2.2.2.2.2.1 k < 0) {p l0 v : Int32} : Ct X l mX10_which [aR 28 0, aI p, aI l0, aI v] h (QI (fun vr h2 => rV (wWhich x c.2.2.2.2.2.2.2.1 c.2.2.2.2.2.2.2.2 p l0 v) (aWhich x c.2.2.2.2.2.2.2.1 c.2.2.2.2.2.2.2.2 p l0 v) = vr ∧ ∃ (z1 : RZ), h2 28 = some (rB x (-1) (rS (wWhich x c.2.2.2.2.2.2.2.1 c.2.2.2.2.2.2.2.2 p l0 v) c.1, c.2) z1) ∧ ∀ i, i ≠ 28 → h2 i = h i)) := by
  by_cases hv : v < 0 ∨ 2 < v
  · exact S_X10_which_o X l O28 hW hn hr hv
  · obtain ⟨k, rfl, hk⟩ := nI_exg (n := 2) (fun z => hv (Or.inl z)) (fun z => hv (Or.inr z)) (by decide)
    rcases (show k = 0 ∨ k = 1 ∨ k = 2 by omega) with rfl | rfl | rfl
    · exact S_X10_which_0 X l O28 hW hn hr
    · exact S_X10_which_1 X l O28 hW hn hr
    · exact S_X10_which_2 X l O28 hW hn hr
