/-! Sets: what is found by going through all sets of things -/
def powF (b : Int64) (n : Nat) : Int64 := foldN (fun _ t => t * b) 1 n
def ftF (x : PW) (p ls : Int32) (i : Nat) (u : Int32) : Int32 := if nI i &&& (p ^^^ (-1)) = 0 ∧ (u = -9 ∨ bitC (nI i) < bitC u) ∧ dDone x 0 (p &&& (nI i ^^^ (-1))) &&& ls = 0 then nI i else u
def agF (x : PW) (p : Int32) (i : Nat) (t : Int32 × Int32) : Int32 × Int32 := if nI i &&& (p ^^^ (-1)) = 0 ∧ (p &&& (nI i ^^^ (-1))) &&& (dEnd x 0 (p &&& (nI i ^^^ (-1))) ^^^ (-1)) = 0 then (t.1 + 1, if t.2 = -9 ∨ bitC (nI i) < bitC t.2 then nI i else t.2) else t
def fbF (x : PW) (p l : Int32) (i : Nat) (u : Int32) : Int32 := if nI i &&& p = 0 ∧ (u = -9 ∨ bitC (nI i) < bitC u) ∧ btI (dDone x 0 (p ||| nI i)) l = true then nI i else u
def buF (x : PW) (i : Nat) (t : Int32 × Int32) : Int32 × Int32 := if t.2 < DN x (nI i) then (nI i, DN x (nI i)) else t
def wyF (x : PW) (l : Int32) (i : Nat) (u : Int32) : Int32 := if btI (dDone x 0 (nI i)) l = true then u + 1 else u
def eaF (x : PW) (l : Int32) (i : Nat) (t : Int32 × Int32) : Int32 × Int32 := if ¬ hourF (dLaw x 0 (nI i)) l = -9 ∧ (t.1 = -9 ∨ hourF (dLaw x 0 (nI i)) l < t.1) then (hourF (dLaw x 0 (nI i)) l, nI i) else t
set_option maxHeartbeats 4000000 in
set_option maxRecDepth 100000 in
theorem S_X9_power (X : En) (l : Launch) {h : Hp} {b : Int64} {n : Nat} (hn : n < 2 ^ 31) : Ct X l mX9_power [aL b, aI (nI n)] h (QL (PL0 (powF b n) h)) := by
  refine Ct.intro [some (aL b), none, some (aI (nI n)), none, none, none] (by decide +kernel) rfl (Nat.le_of_ble_eq_true rfl) ?_
  refine A_lconst 1 (1) dX9_power_0 rfl (by decide) ?_
  refine A_lstore_n 2 dX9_power_1 rfl rfl (by decide) (by first | exact (astL_s (astL_s (astL_1 rfl))) | exact (astL_s (astL_s astL_k))) ?_
  refine A_iconst 3 (0) dX9_power_2 rfl (by decide) ?_
  refine A_istore 5 dX9_power_3 rfl (by decide) (by first | exact (ast_s (ast_s (ast_s (ast_s (ast_1 rfl))))) | exact (ast_s (ast_s (ast_s (ast_s ast_k))))) ?_
  have L5 : ∀ (nq i : Nat) (u : Int64) , (nq + i = n) → (foldN (fun _ t => t * b) (1) i = (u)) → Av X l mX9_power 5 [some (aL (b)), none, some (aI (nI (n))), some (aL (u)), none, some (aI (nI (i)))] [] h (QL (PL0 (powF b n) h)) := by
    intro nq
    induction nq using Nat.strongRecOn with
    | _ nq ih =>
    intro i u en ee
    refine A_iload 7 dX9_power_5 rfl rfl ?_
    refine A_iload_n 8 dX9_power_7 rfl rfl rfl ?_
    refine A_icmp_ge 21 11 dX9_power_8 (by decide) rfl (fun c8 => ?_) (fun c8 => ?_)
    · skip
      obtain rfl := (up_ge_T (N := n) c8 rfl (by omega) (by omega)).symm
      refine A_lload_n 22 dX9_power_21 rfl rfl rfl ?_
      refine A_lret dX9_power_22 rfl ⟨_, rfl, (by unfold powF; rw [ee]), rfl⟩
    · skip
      have hi := up_ge_F (N := n) c8 rfl (by omega) (by omega)
      obtain ⟨n0, rfl⟩ : ∃ q, nq = q + 1 := ⟨nq - 1, by omega⟩
      refine A_lload_n 12 dX9_power_11 rfl rfl rfl ?_
      refine A_lload_n 13 dX9_power_12 rfl rfl rfl ?_
      refine A_lmul 14 dX9_power_13 rfl ?_
      refine A_lstore_n 15 dX9_power_14 rfl rfl (by decide) (by first | exact (astL_s (astL_s (astL_1 rfl))) | exact (astL_s (astL_s astL_k))) ?_
      first | refine A_iincN 18 dX9_power_15 rfl rfl (by decide) (by first | exact (ast_s (ast_s (ast_s (ast_s (ast_1 rfl))))) | exact (ast_s (ast_s (ast_s (ast_s ast_k))))) ?_ | refine A_iinc 18 (1) dX9_power_15 rfl rfl (by decide) (by decide) (by first | exact (ast_s (ast_s (ast_s (ast_s (ast_1 rfl))))) | exact (ast_s (ast_s (ast_s (ast_s ast_k))))) ?_
      refine A_goto 5 dX9_power_18 (by decide) ?_
      exact A_weak (ih n0 (Nat.lt_succ_self n0) (i + 1) _  (by omega) ((foldN_s (fun _ t => t * b) (1) i).trans ((congrArg ((fun _ t => t * b) i) ee).trans (by first | with_reducible rfl | (simp only [if_true, if_false, ite_true, ite_false, and_true, true_and, and_false, false_and, and_self, or_true, true_or, or_false, false_or, or_self, not_true_eq_false, not_false_eq_true, decide_true, decide_false, Bool.and_true, Bool.true_and, Bool.and_false, Bool.false_and, Bool.and_self, Bool.or_true, Bool.true_or, Bool.or_false, Bool.false_or, Bool.not_true, Bool.not_false, cond_true, cond_false, bI_t, bI_f, Bool.false_eq_true, Bool.true_eq_false, dayC_1, dayC_21, dayC_221, dayC_222, powF]; done) | (simp [*, powF]; done) | with_reducible_and_instances rfl))) ) (sub_s (sub_n (sub_s (sub_s (sub_n (sub_s sub_nil))))))
  exact A_weak (L5 (n) (0) (_)  (by omega) (rfl) ) (sub_s (sub_n (sub_s (sub_s (sub_n (sub_s sub_nil))))))
set_option maxHeartbeats 4000000 in
set_option maxRecDepth 100000 in
theorem S_X6_fewestTaken (X : En) (l : Launch) {h : Hp} {x : PW} {y : PC} (O19 : h 19 = some (seB)) (O20 : h 20 = some (cB 20 y)) (O1 : h 1 = some (wB 1 x)) (hx : LOK x) {p ls : Int32} : Ct X l mX6_fewestTaken [aR 19 0, aR 1 0, aI p, aI ls] h (QI (fun vr h2 => (foldN (ftF x p ls) (-9) 256) = vr ∧ ∃ (y1 : PC), h2 (20) = some (cB 20 y1) ∧ ∀ i, i ≠ 20 → h2 i = h i)) := by
  have hf : ∀ i, i ≠ 20 → h i = h i := fun _ _ => rfl
  refine Ct.intro [some (aR 19 0), some (aR 1 0), some (aI p), some (aI ls), none, none] (by decide +kernel) rfl (Nat.le_of_ble_eq_true rfl) ?_
  refine A_bipush 2 (-9) dX6_fewestTaken_0 rfl (by decide) ?_
  refine A_istore 4 dX6_fewestTaken_2 rfl (by decide) (by first | exact (ast_s (ast_s (ast_s (ast_1 rfl)))) | exact (ast_s (ast_s (ast_s ast_k)))) ?_
  refine A_iconst 5 (0) dX6_fewestTaken_4 rfl (by decide) ?_
  refine A_istore 7 dX6_fewestTaken_5 rfl (by decide) (by first | exact (ast_s (ast_s (ast_s (ast_s (ast_1 rfl))))) | exact (ast_s (ast_s (ast_s (ast_s ast_k))))) ?_
  have L7 : ∀ (nq i : Nat) (u : Int32) (g7 : Hp) (y0 : PC), (nq + i = 256) → (foldN (ftF x p ls) (-9) i = (u)) → (g7 19 = some (seB)) → (g7 20 = some (cB 20 y0)) → (g7 1 = some (wB 1 x)) → (∀ i, i ≠ 20 → g7 i = h i) → Av X l mX6_fewestTaken 7 [some (aR 19 0), some (aR 1 0), some (aI (p)), some (aI (ls)), some (aI (u)), some (aI (nI (i)))] [] g7 (QI (fun vr h2 => (foldN (ftF x p ls) (-9) 256) = vr ∧ ∃ (y1 : PC), h2 (20) = some (cB 20 y1) ∧ ∀ i, i ≠ 20 → h2 i = h i)) := by
    intro nq
    induction nq using Nat.strongRecOn with
    | _ nq ih =>
    intro i u g7 y0 en ee O19 O20 O1 hf
    refine A_iload 9 dX6_fewestTaken_7 rfl rfl ?_
    refine A_sipush 12 (255) dX6_fewestTaken_9 rfl (by decide) ?_
    refine A_icmp_gt 67 15 dX6_fewestTaken_12 (by decide) rfl (fun c12 => ?_) (fun c12 => ?_)
    · skip
      obtain rfl := (up_gt_T (N := 256) c12 rfl (by omega) (by omega) (by omega)).symm
      refine A_iload 69 dX6_fewestTaken_67 rfl rfl ?_
      refine A_iret dX6_fewestTaken_69 rfl ⟨_, rfl, (by first | with_reducible rfl | (simp only [if_true, if_false, ite_true, ite_false, and_true, true_and, and_false, false_and, and_self, or_true, true_or, or_false, false_or, or_self, not_true_eq_false, not_false_eq_true, decide_true, decide_false, Bool.and_true, Bool.true_and, Bool.and_false, Bool.false_and, Bool.and_self, Bool.or_true, Bool.true_or, Bool.or_false, Bool.false_or, Bool.not_true, Bool.not_false, cond_true, cond_false, bI_t, bI_f, Bool.false_eq_true, Bool.true_eq_false, dayC_1, dayC_21, dayC_221, dayC_222]; done) | (simp only [*]; done) | (simp [bI, *]; done) | with_reducible_and_instances rfl), _, O20, hf⟩
    · skip
      have hi := up_gt_F (N := 256) c12 rfl (by omega) (by omega) (by omega)
      obtain ⟨n0, rfl⟩ : ∃ q, nq = q + 1 := ⟨nq - 1, by omega⟩
      refine A_iload 17 dX6_fewestTaken_15 rfl rfl ?_
      refine A_iload_n 18 dX6_fewestTaken_17 rfl rfl rfl ?_
      refine A_iconst 19 (-1) dX6_fewestTaken_18 rfl (by decide) ?_
      refine A_ixor 20 dX6_fewestTaken_19 rfl ?_
      refine A_iand 21 dX6_fewestTaken_20 rfl ?_
      refine A_if_ne 61 24 dX6_fewestTaken_21 (by decide) rfl (fun c21 => ?_) (fun c21 => ?_)
      · skip
        try simp only [bI_0, bI_n0, Classical.not_not, Bool.not_eq_false, Bool.true_and, Bool.and_true, decide_eq_true_eq, decide_eq_false_iff_not, dayC_1, dayC_21, dayC_221, dayC_222] at c21
        first | refine A_iincN 64 dX6_fewestTaken_61 rfl rfl (by decide) (by first | exact (ast_s (ast_s (ast_s (ast_s (ast_1 rfl))))) | exact (ast_s (ast_s (ast_s (ast_s ast_k))))) ?_ | refine A_iinc 64 (1) dX6_fewestTaken_61 rfl rfl (by decide) (by decide) (by first | exact (ast_s (ast_s (ast_s (ast_s (ast_1 rfl))))) | exact (ast_s (ast_s (ast_s (ast_s ast_k))))) ?_
        refine A_goto 7 dX6_fewestTaken_64 (by decide) ?_
        exact ih n0 (Nat.lt_succ_self n0) (i + 1) _ g7 _ (by omega) ((foldN_s (ftF x p ls) (-9) i).trans ((congrArg ((ftF x p ls) i) ee).trans (by first | with_reducible rfl | (simp only [c21, if_true, if_false, ite_true, ite_false, and_true, true_and, and_false, false_and, and_self, or_true, true_or, or_false, false_or, or_self, not_true_eq_false, not_false_eq_true, decide_true, decide_false, Bool.and_true, Bool.true_and, Bool.and_false, Bool.false_and, Bool.and_self, Bool.or_true, Bool.true_or, Bool.or_false, Bool.false_or, Bool.not_true, Bool.not_false, cond_true, cond_false, bI_t, bI_f, Bool.false_eq_true, Bool.true_eq_false, dayC_1, dayC_21, dayC_221, dayC_222, ftF]; done) | (simp [*, ftF]; done) | with_reducible_and_instances rfl))) O19 O20 O1 hf
      · skip
        try simp only [bI_0, bI_n0, Classical.not_not, Bool.not_eq_false, Bool.true_and, Bool.and_true, decide_eq_true_eq, decide_eq_false_iff_not, dayC_1, dayC_21, dayC_221, dayC_222] at c21
        refine A_iload 26 dX6_fewestTaken_24 rfl rfl ?_
        refine A_iload 28 dX6_fewestTaken_26 rfl rfl ?_
        refine A_callNI 31 (S_X9_isFewer X l) dX6_fewestTaken_28 rfl kX9_isFewer nk_X6_18 rfl (by decide) rfl (Nat.le_of_ble_eq_true rfl) (fun v_1 h_1 qh_1 => ?_)
        obtain ⟨rfl, rfl⟩ := qh_1
        refine A_if_ne 37 34 dX6_fewestTaken_31 (by decide) rfl (fun c31 => ?_) (fun c31 => ?_)
        · skip
          try simp only [bI_0, bI_n0, Classical.not_not, Bool.not_eq_false, Bool.true_and, Bool.and_true, decide_eq_true_eq, decide_eq_false_iff_not, dayC_1, dayC_21, dayC_221, dayC_222] at c31
          refine A_aload_n 38 dX6_fewestTaken_37 rfl rfl rfl ?_
          refine A_getfield 41 dX6_fewestTaken_38 rfl f_X6_12 O19 rfl ?_
          refine A_aload_n 42 dX6_fewestTaken_41 rfl rfl rfl ?_
          refine A_iload_n 43 dX6_fewestTaken_42 rfl rfl rfl ?_
          refine A_iload 45 dX6_fewestTaken_43 rfl rfl ?_
          refine A_iconst 46 (-1) dX6_fewestTaken_45 rfl (by decide) ?_
          refine A_ixor 47 dX6_fewestTaken_46 rfl ?_
          refine A_iand 48 dX6_fewestTaken_47 rfl ?_
          refine A_iconst 49 (0) dX6_fewestTaken_48 rfl (by decide) ?_
          refine A_callVI 52 (S_X1_run X l (by first | assumption | decide | omega | exact Ne.symm (by assumption)) (by first | assumption | decide | omega | exact Ne.symm (by assumption)) (by first | assumption | decide | omega | exact Ne.symm (by assumption)) (by first | assumption | decide | omega | exact Ne.symm (by assumption))) dX6_fewestTaken_49 rfl kX1_run lk_X6_22 rfl O20 (by decide) rfl (Nat.le_of_ble_eq_true rfl) (fun v_2 h_2 qh_2 => ?_)
          obtain ⟨rfl, n0h_2, eh_2⟩ := qh_2
          replace O19 := (eh_2 _ (by decide)).trans O19
          replace O20 := n0h_2
          replace O1 := (eh_2 _ (by decide)).trans O1
          replace hf : ∀ i, i ≠ 20 → h_2 i = h i := fun i g0 => (eh_2 i g0).trans (hf i g0)
          refine A_iload_n 53 dX6_fewestTaken_52 rfl rfl rfl ?_
          refine A_iand 54 dX6_fewestTaken_53 rfl ?_
          refine A_if_ne 61 57 dX6_fewestTaken_54 (by decide) rfl (fun c54 => ?_) (fun c54 => ?_)
          · skip
            try simp only [bI_0, bI_n0, Classical.not_not, Bool.not_eq_false, Bool.true_and, Bool.and_true, decide_eq_true_eq, decide_eq_false_iff_not, dayC_1, dayC_21, dayC_221, dayC_222] at c54
            first | refine A_iincN 64 dX6_fewestTaken_61 rfl rfl (by decide) (by first | exact (ast_s (ast_s (ast_s (ast_s (ast_1 rfl))))) | exact (ast_s (ast_s (ast_s (ast_s ast_k))))) ?_ | refine A_iinc 64 (1) dX6_fewestTaken_61 rfl rfl (by decide) (by decide) (by first | exact (ast_s (ast_s (ast_s (ast_s (ast_1 rfl))))) | exact (ast_s (ast_s (ast_s (ast_s ast_k))))) ?_
            refine A_goto 7 dX6_fewestTaken_64 (by decide) ?_
            exact ih n0 (Nat.lt_succ_self n0) (i + 1) _ h_2 _ (by omega) ((foldN_s (ftF x p ls) (-9) i).trans ((congrArg ((ftF x p ls) i) ee).trans (by first | with_reducible rfl | (simp only [c21, c31, c54, if_true, if_false, ite_true, ite_false, and_true, true_and, and_false, false_and, and_self, or_true, true_or, or_false, false_or, or_self, not_true_eq_false, not_false_eq_true, decide_true, decide_false, Bool.and_true, Bool.true_and, Bool.and_false, Bool.false_and, Bool.and_self, Bool.or_true, Bool.true_or, Bool.or_false, Bool.false_or, Bool.not_true, Bool.not_false, cond_true, cond_false, bI_t, bI_f, Bool.false_eq_true, Bool.true_eq_false, dayC_1, dayC_21, dayC_221, dayC_222, ftF]; done) | (simp only [eq_true c21, c31, c54, if_true, if_false, ite_true, ite_false, and_true, true_and, and_false, false_and, and_self, or_true, true_or, or_false, false_or, or_self, not_true_eq_false, not_false_eq_true, decide_true, decide_false, Bool.and_true, Bool.true_and, Bool.and_false, Bool.false_and, Bool.and_self, Bool.or_true, Bool.true_or, Bool.or_false, Bool.false_or, Bool.not_true, Bool.not_false, cond_true, cond_false, bI_t, bI_f, Bool.false_eq_true, Bool.true_eq_false, dayC_1, dayC_21, dayC_221, dayC_222, ftF]; done) | (simp [*, ftF]; done) | with_reducible_and_instances rfl))) O19 O20 O1 hf
          · skip
            try simp only [bI_0, bI_n0, Classical.not_not, Bool.not_eq_false, Bool.true_and, Bool.and_true, decide_eq_true_eq, decide_eq_false_iff_not, dayC_1, dayC_21, dayC_221, dayC_222] at c54
            refine A_iload 59 dX6_fewestTaken_57 rfl rfl ?_
            refine A_istore 61 dX6_fewestTaken_59 rfl (by decide) (by first | exact (ast_s (ast_s (ast_s (ast_1 rfl)))) | exact (ast_s (ast_s (ast_s ast_k)))) ?_
            first | refine A_iincN 64 dX6_fewestTaken_61 rfl rfl (by decide) (by first | exact (ast_s (ast_s (ast_s (ast_s (ast_1 rfl))))) | exact (ast_s (ast_s (ast_s (ast_s ast_k))))) ?_ | refine A_iinc 64 (1) dX6_fewestTaken_61 rfl rfl (by decide) (by decide) (by first | exact (ast_s (ast_s (ast_s (ast_s (ast_1 rfl))))) | exact (ast_s (ast_s (ast_s (ast_s ast_k))))) ?_
            refine A_goto 7 dX6_fewestTaken_64 (by decide) ?_
            exact ih n0 (Nat.lt_succ_self n0) (i + 1) _ h_2 _ (by omega) ((foldN_s (ftF x p ls) (-9) i).trans ((congrArg ((ftF x p ls) i) ee).trans (by first | with_reducible rfl | (simp only [c21, c31, c54, if_true, if_false, ite_true, ite_false, and_true, true_and, and_false, false_and, and_self, or_true, true_or, or_false, false_or, or_self, not_true_eq_false, not_false_eq_true, decide_true, decide_false, Bool.and_true, Bool.true_and, Bool.and_false, Bool.false_and, Bool.and_self, Bool.or_true, Bool.true_or, Bool.or_false, Bool.false_or, Bool.not_true, Bool.not_false, cond_true, cond_false, bI_t, bI_f, Bool.false_eq_true, Bool.true_eq_false, dayC_1, dayC_21, dayC_221, dayC_222, ftF]; done) | (simp only [eq_true c21, c31, eq_true c54, if_true, if_false, ite_true, ite_false, and_true, true_and, and_false, false_and, and_self, or_true, true_or, or_false, false_or, or_self, not_true_eq_false, not_false_eq_true, decide_true, decide_false, Bool.and_true, Bool.true_and, Bool.and_false, Bool.false_and, Bool.and_self, Bool.or_true, Bool.true_or, Bool.or_false, Bool.false_or, Bool.not_true, Bool.not_false, cond_true, cond_false, bI_t, bI_f, Bool.false_eq_true, Bool.true_eq_false, dayC_1, dayC_21, dayC_221, dayC_222, ftF]; done) | (simp [*, ftF]; done) | with_reducible_and_instances rfl))) O19 O20 O1 hf
        · skip
          try simp only [bI_0, bI_n0, Classical.not_not, Bool.not_eq_false, Bool.true_and, Bool.and_true, decide_eq_true_eq, decide_eq_false_iff_not, dayC_1, dayC_21, dayC_221, dayC_222] at c31
          refine A_goto 61 dX6_fewestTaken_34 (by decide) ?_
          first | refine A_iincN 64 dX6_fewestTaken_61 rfl rfl (by decide) (by first | exact (ast_s (ast_s (ast_s (ast_s (ast_1 rfl))))) | exact (ast_s (ast_s (ast_s (ast_s ast_k))))) ?_ | refine A_iinc 64 (1) dX6_fewestTaken_61 rfl rfl (by decide) (by decide) (by first | exact (ast_s (ast_s (ast_s (ast_s (ast_1 rfl))))) | exact (ast_s (ast_s (ast_s (ast_s ast_k))))) ?_
          refine A_goto 7 dX6_fewestTaken_64 (by decide) ?_
          exact ih n0 (Nat.lt_succ_self n0) (i + 1) _ g7 _ (by omega) ((foldN_s (ftF x p ls) (-9) i).trans ((congrArg ((ftF x p ls) i) ee).trans (by first | with_reducible rfl | (simp only [c21, c31, if_true, if_false, ite_true, ite_false, and_true, true_and, and_false, false_and, and_self, or_true, true_or, or_false, false_or, or_self, not_true_eq_false, not_false_eq_true, decide_true, decide_false, Bool.and_true, Bool.true_and, Bool.and_false, Bool.false_and, Bool.and_self, Bool.or_true, Bool.true_or, Bool.or_false, Bool.false_or, Bool.not_true, Bool.not_false, cond_true, cond_false, bI_t, bI_f, Bool.false_eq_true, Bool.true_eq_false, dayC_1, dayC_21, dayC_221, dayC_222, ftF]; done) | (simp only [eq_true c21, c31, if_true, if_false, ite_true, ite_false, and_true, true_and, and_false, false_and, and_self, or_true, true_or, or_false, false_or, or_self, not_true_eq_false, not_false_eq_true, decide_true, decide_false, Bool.and_true, Bool.true_and, Bool.and_false, Bool.false_and, Bool.and_self, Bool.or_true, Bool.true_or, Bool.or_false, Bool.false_or, Bool.not_true, Bool.not_false, cond_true, cond_false, bI_t, bI_f, Bool.false_eq_true, Bool.true_eq_false, dayC_1, dayC_21, dayC_221, dayC_222, ftF]; done) | (simp [*, ftF]; done) | with_reducible_and_instances rfl))) O19 O20 O1 hf
  exact L7 (256) (0) (_) h (_) (by omega) (rfl) O19 O20 O1 hf
set_option maxHeartbeats 4000000 in
set_option maxRecDepth 100000 in
theorem S_X6_agreeing (X : En) (l : Launch) {h : Hp} {x : PW} {y : PC} (O19 : h 19 = some (seB)) (O20 : h 20 = some (cB 20 y)) (O1 : h 1 = some (wB 1 x)) (hx : LOK x) {p wh : Int32} : Ct X l mX6_agreeing [aR 19 0, aR 1 0, aI p, aI wh] h (QI (fun vr h2 => (if wh = 0 then (foldN (agF x p) (0, -9) 256).1 else (foldN (agF x p) (0, -9) 256).2) = vr ∧ ∃ (y1 : PC), h2 (20) = some (cB 20 y1) ∧ ∀ i, i ≠ 20 → h2 i = h i)) := by
  have hf : ∀ i, i ≠ 20 → h i = h i := fun _ _ => rfl
  refine Ct.intro [some (aR 19 0), some (aR 1 0), some (aI p), some (aI wh), none, none, none, none] (by decide +kernel) rfl (Nat.le_of_ble_eq_true rfl) ?_
  refine A_iconst 1 (0) dX6_agreeing_0 rfl (by decide) ?_
  refine A_istore 3 dX6_agreeing_1 rfl (by decide) (by first | exact (ast_s (ast_s (ast_s (ast_1 rfl)))) | exact (ast_s (ast_s (ast_s ast_k)))) ?_
  refine A_bipush 5 (-9) dX6_agreeing_3 rfl (by decide) ?_
  refine A_istore 7 dX6_agreeing_5 rfl (by decide) (by first | exact (ast_s (ast_s (ast_s (ast_s (ast_1 rfl))))) | exact (ast_s (ast_s (ast_s (ast_s ast_k))))) ?_
  refine A_iconst 8 (0) dX6_agreeing_7 rfl (by decide) ?_
  refine A_istore 10 dX6_agreeing_8 rfl (by decide) (by first | exact (ast_s (ast_s (ast_s (ast_s (ast_s (ast_1 rfl)))))) | exact (ast_s (ast_s (ast_s (ast_s (ast_s ast_k)))))) ?_
  have L10 : ∀ (nq i : Nat) (u v : Int32) (g10 : Hp) (y0 : PC), (nq + i = 256) → (foldN (agF x p) ((0, -9)) i = (u, v)) → (g10 19 = some (seB)) → (g10 20 = some (cB 20 y0)) → (g10 1 = some (wB 1 x)) → (∀ i, i ≠ 20 → g10 i = h i) → Av X l mX6_agreeing 10 [some (aR 19 0), some (aR 1 0), some (aI (p)), some (aI (wh)), some (aI (u)), some (aI (v)), some (aI (nI (i))), none] [] g10 (QI (fun vr h2 => (if wh = 0 then (foldN (agF x p) (0, -9) 256).1 else (foldN (agF x p) (0, -9) 256).2) = vr ∧ ∃ (y1 : PC), h2 (20) = some (cB 20 y1) ∧ ∀ i, i ≠ 20 → h2 i = h i)) := by
    intro nq
    induction nq using Nat.strongRecOn with
    | _ nq ih =>
    intro i u v g10 y0 en ee O19 O20 O1 hf
    refine A_iload 12 dX6_agreeing_10 rfl rfl ?_
    refine A_sipush 15 (255) dX6_agreeing_12 rfl (by decide) ?_
    refine A_icmp_gt 91 18 dX6_agreeing_15 (by decide) rfl (fun c15 => ?_) (fun c15 => ?_)
    · skip
      obtain rfl := (up_gt_T (N := 256) c15 rfl (by omega) (by omega) (by omega)).symm
      refine A_iload_n 92 dX6_agreeing_91 rfl rfl rfl ?_
      refine A_if_ne 100 95 dX6_agreeing_92 (by decide) rfl (fun c92 => ?_) (fun c92 => ?_)
      · skip
        try simp only [bI_0, bI_n0, Classical.not_not, Bool.not_eq_false, Bool.true_and, Bool.and_true, decide_eq_true_eq, decide_eq_false_iff_not, dayC_1, dayC_21, dayC_221, dayC_222] at c92
        refine A_iload 102 dX6_agreeing_100 rfl rfl ?_
        refine A_iret dX6_agreeing_102 rfl ⟨_, rfl, (by rw [ee]; simp [*]), _, O20, hf⟩
      · skip
        try simp only [bI_0, bI_n0, Classical.not_not, Bool.not_eq_false, Bool.true_and, Bool.and_true, decide_eq_true_eq, decide_eq_false_iff_not, dayC_1, dayC_21, dayC_221, dayC_222] at c92
        refine A_iload 97 dX6_agreeing_95 rfl rfl ?_
        refine A_goto 102 dX6_agreeing_97 (by decide) ?_
        refine A_iret dX6_agreeing_102 rfl ⟨_, rfl, (by rw [ee]; simp [*]), _, O20, hf⟩
    · skip
      have hi := up_gt_F (N := 256) c15 rfl (by omega) (by omega) (by omega)
      obtain ⟨n0, rfl⟩ : ∃ q, nq = q + 1 := ⟨nq - 1, by omega⟩
      refine A_iload 20 dX6_agreeing_18 rfl rfl ?_
      refine A_iload_n 21 dX6_agreeing_20 rfl rfl rfl ?_
      refine A_iconst 22 (-1) dX6_agreeing_21 rfl (by decide) ?_
      refine A_ixor 23 dX6_agreeing_22 rfl ?_
      refine A_iand 24 dX6_agreeing_23 rfl ?_
      refine A_if_eq 30 27 dX6_agreeing_24 (by decide) rfl (fun c24 => ?_) (fun c24 => ?_)
      · skip
        try simp only [bI_0, bI_n0, Classical.not_not, Bool.not_eq_false, Bool.true_and, Bool.and_true, decide_eq_true_eq, decide_eq_false_iff_not, dayC_1, dayC_21, dayC_221, dayC_222] at c24
        refine A_iload_n 31 dX6_agreeing_30 rfl rfl rfl ?_
        refine A_iload 33 dX6_agreeing_31 rfl rfl ?_
        refine A_iconst 34 (-1) dX6_agreeing_33 rfl (by decide) ?_
        refine A_ixor 35 dX6_agreeing_34 rfl ?_
        refine A_iand 36 dX6_agreeing_35 rfl ?_
        refine A_istore 38 dX6_agreeing_36 rfl (by decide) (by first | exact (ast_s (ast_s (ast_s (ast_s (ast_s (ast_s (ast_1 rfl))))))) | exact (ast_s (ast_s (ast_s (ast_s (ast_s (ast_s ast_k))))))) ?_
        refine A_aload_n 39 dX6_agreeing_38 rfl rfl rfl ?_
        refine A_getfield 42 dX6_agreeing_39 rfl f_X6_12 O19 rfl ?_
        refine A_aload_n 43 dX6_agreeing_42 rfl rfl rfl ?_
        refine A_iload 45 dX6_agreeing_43 rfl rfl ?_
        refine A_iconst 46 (0) dX6_agreeing_45 rfl (by decide) ?_
        refine A_callVI 49 (S_X1_run X l (by first | assumption | decide | omega | exact Ne.symm (by assumption)) (by first | assumption | decide | omega | exact Ne.symm (by assumption)) (by first | assumption | decide | omega | exact Ne.symm (by assumption)) (by first | assumption | decide | omega | exact Ne.symm (by assumption))) dX6_agreeing_46 rfl kX1_run lk_X6_22 rfl O20 (by decide) rfl (Nat.le_of_ble_eq_true rfl) (fun v_1 h_1 qh_1 => ?_)
        obtain ⟨rfl, n0h_1, eh_1⟩ := qh_1
        replace O19 := (eh_1 _ (by decide)).trans O19
        replace O20 := n0h_1
        replace O1 := (eh_1 _ (by decide)).trans O1
        replace hf : ∀ i, i ≠ 20 → h_1 i = h i := fun i g0 => (eh_1 i g0).trans (hf i g0)
        refine A_pop 50 dX6_agreeing_49 rfl rfl ?_
        refine A_iload 52 dX6_agreeing_50 rfl rfl ?_
        refine A_aload_n 53 dX6_agreeing_52 rfl rfl rfl ?_
        refine A_getfield 56 dX6_agreeing_53 rfl f_X6_12 O19 rfl ?_
        refine A_callVI 59 (S_X1_pocketsAtEnd X l (by first | assumption | decide | omega | exact Ne.symm (by assumption))) dX6_agreeing_56 rfl kX1_pocketsAtEnd lk_X6_26 rfl O20 (by decide) rfl (Nat.le_of_ble_eq_true rfl) (fun v_2 h_2 qh_2 => ?_)
        obtain ⟨rfl, rfl⟩ := qh_2
        refine A_iconst 60 (-1) dX6_agreeing_59 rfl (by decide) ?_
        refine A_ixor 61 dX6_agreeing_60 rfl ?_
        refine A_iand 62 dX6_agreeing_61 rfl ?_
        refine A_if_eq 68 65 dX6_agreeing_62 (by decide) rfl (fun c62 => ?_) (fun c62 => ?_)
        · skip
          try simp only [bI_0, bI_n0, Classical.not_not, Bool.not_eq_false, Bool.true_and, Bool.and_true, decide_eq_true_eq, decide_eq_false_iff_not, dayC_1, dayC_21, dayC_221, dayC_222] at c62
          first | refine A_iincN 71 dX6_agreeing_68 rfl rfl (by decide) (by first | exact (ast_s (ast_s (ast_s (ast_1 rfl)))) | exact (ast_s (ast_s (ast_s ast_k)))) ?_ | refine A_iinc 71 (1) dX6_agreeing_68 rfl rfl (by decide) (by decide) (by first | exact (ast_s (ast_s (ast_s (ast_1 rfl)))) | exact (ast_s (ast_s (ast_s ast_k)))) ?_
          refine A_iload 73 dX6_agreeing_71 rfl rfl ?_
          refine A_iload 75 dX6_agreeing_73 rfl rfl ?_
          refine A_callNI 78 (S_X9_isFewer X l) dX6_agreeing_75 rfl kX9_isFewer nk_X6_18 rfl (by decide) rfl (Nat.le_of_ble_eq_true rfl) (fun v_3 h_3 qh_3 => ?_)
          obtain ⟨rfl, rfl⟩ := qh_3
          refine A_if_eq 85 81 dX6_agreeing_78 (by decide) rfl (fun c78 => ?_) (fun c78 => ?_)
          · skip
            try simp only [bI_0, bI_n0, Classical.not_not, Bool.not_eq_false, Bool.true_and, Bool.and_true, decide_eq_true_eq, decide_eq_false_iff_not, dayC_1, dayC_21, dayC_221, dayC_222] at c78
            first | refine A_iincN 88 dX6_agreeing_85 rfl rfl (by decide) (by first | exact (ast_s (ast_s (ast_s (ast_s (ast_s (ast_1 rfl)))))) | exact (ast_s (ast_s (ast_s (ast_s (ast_s ast_k)))))) ?_ | refine A_iinc 88 (1) dX6_agreeing_85 rfl rfl (by decide) (by decide) (by first | exact (ast_s (ast_s (ast_s (ast_s (ast_s (ast_1 rfl)))))) | exact (ast_s (ast_s (ast_s (ast_s (ast_s ast_k)))))) ?_
            refine A_goto 10 dX6_agreeing_88 (by decide) ?_
            exact A_weak (ih n0 (Nat.lt_succ_self n0) (i + 1) _ _ h_1 _ (by omega) ((foldN_s (agF x p) ((0, -9)) i).trans ((congrArg ((agF x p) i) ee).trans (by first | with_reducible rfl | (simp only [c24, c62, c78, if_true, if_false, ite_true, ite_false, and_true, true_and, and_false, false_and, and_self, or_true, true_or, or_false, false_or, or_self, not_true_eq_false, not_false_eq_true, decide_true, decide_false, Bool.and_true, Bool.true_and, Bool.and_false, Bool.false_and, Bool.and_self, Bool.or_true, Bool.true_or, Bool.or_false, Bool.false_or, Bool.not_true, Bool.not_false, cond_true, cond_false, bI_t, bI_f, Bool.false_eq_true, Bool.true_eq_false, dayC_1, dayC_21, dayC_221, dayC_222, agF]; done) | (simp only [eq_true c24, eq_true c62, c78, if_true, if_false, ite_true, ite_false, and_true, true_and, and_false, false_and, and_self, or_true, true_or, or_false, false_or, or_self, not_true_eq_false, not_false_eq_true, decide_true, decide_false, Bool.and_true, Bool.true_and, Bool.and_false, Bool.false_and, Bool.and_self, Bool.or_true, Bool.true_or, Bool.or_false, Bool.false_or, Bool.not_true, Bool.not_false, cond_true, cond_false, bI_t, bI_f, Bool.false_eq_true, Bool.true_eq_false, dayC_1, dayC_21, dayC_221, dayC_222, agF]; done) | (simp [*, agF]; done) | with_reducible_and_instances rfl))) O19 O20 O1 hf) (sub_s (sub_s (sub_s (sub_s (sub_s (sub_s (sub_s (sub_n sub_nil))))))))
          · skip
            try simp only [bI_0, bI_n0, Classical.not_not, Bool.not_eq_false, Bool.true_and, Bool.and_true, decide_eq_true_eq, decide_eq_false_iff_not, dayC_1, dayC_21, dayC_221, dayC_222] at c78
            refine A_iload 83 dX6_agreeing_81 rfl rfl ?_
            refine A_istore 85 dX6_agreeing_83 rfl (by decide) (by first | exact (ast_s (ast_s (ast_s (ast_s (ast_1 rfl))))) | exact (ast_s (ast_s (ast_s (ast_s ast_k))))) ?_
            first | refine A_iincN 88 dX6_agreeing_85 rfl rfl (by decide) (by first | exact (ast_s (ast_s (ast_s (ast_s (ast_s (ast_1 rfl)))))) | exact (ast_s (ast_s (ast_s (ast_s (ast_s ast_k)))))) ?_ | refine A_iinc 88 (1) dX6_agreeing_85 rfl rfl (by decide) (by decide) (by first | exact (ast_s (ast_s (ast_s (ast_s (ast_s (ast_1 rfl)))))) | exact (ast_s (ast_s (ast_s (ast_s (ast_s ast_k)))))) ?_
            refine A_goto 10 dX6_agreeing_88 (by decide) ?_
            exact A_weak (ih n0 (Nat.lt_succ_self n0) (i + 1) _ _ h_1 _ (by omega) ((foldN_s (agF x p) ((0, -9)) i).trans ((congrArg ((agF x p) i) ee).trans (by first | with_reducible rfl | (simp only [c24, c62, c78, if_true, if_false, ite_true, ite_false, and_true, true_and, and_false, false_and, and_self, or_true, true_or, or_false, false_or, or_self, not_true_eq_false, not_false_eq_true, decide_true, decide_false, Bool.and_true, Bool.true_and, Bool.and_false, Bool.false_and, Bool.and_self, Bool.or_true, Bool.true_or, Bool.or_false, Bool.false_or, Bool.not_true, Bool.not_false, cond_true, cond_false, bI_t, bI_f, Bool.false_eq_true, Bool.true_eq_false, dayC_1, dayC_21, dayC_221, dayC_222, agF]; done) | (simp only [eq_true c24, eq_true c62, c78, if_true, if_false, ite_true, ite_false, and_true, true_and, and_false, false_and, and_self, or_true, true_or, or_false, false_or, or_self, not_true_eq_false, not_false_eq_true, decide_true, decide_false, Bool.and_true, Bool.true_and, Bool.and_false, Bool.false_and, Bool.and_self, Bool.or_true, Bool.true_or, Bool.or_false, Bool.false_or, Bool.not_true, Bool.not_false, cond_true, cond_false, bI_t, bI_f, Bool.false_eq_true, Bool.true_eq_false, dayC_1, dayC_21, dayC_221, dayC_222, agF]; done) | (simp [*, agF]; done) | with_reducible_and_instances rfl))) O19 O20 O1 hf) (sub_s (sub_s (sub_s (sub_s (sub_s (sub_s (sub_s (sub_n sub_nil))))))))
        · skip
          try simp only [bI_0, bI_n0, Classical.not_not, Bool.not_eq_false, Bool.true_and, Bool.and_true, decide_eq_true_eq, decide_eq_false_iff_not, dayC_1, dayC_21, dayC_221, dayC_222] at c62
          refine A_goto 85 dX6_agreeing_65 (by decide) ?_
          first | refine A_iincN 88 dX6_agreeing_85 rfl rfl (by decide) (by first | exact (ast_s (ast_s (ast_s (ast_s (ast_s (ast_1 rfl)))))) | exact (ast_s (ast_s (ast_s (ast_s (ast_s ast_k)))))) ?_ | refine A_iinc 88 (1) dX6_agreeing_85 rfl rfl (by decide) (by decide) (by first | exact (ast_s (ast_s (ast_s (ast_s (ast_s (ast_1 rfl)))))) | exact (ast_s (ast_s (ast_s (ast_s (ast_s ast_k)))))) ?_
          refine A_goto 10 dX6_agreeing_88 (by decide) ?_
          exact A_weak (ih n0 (Nat.lt_succ_self n0) (i + 1) _ _ h_1 _ (by omega) ((foldN_s (agF x p) ((0, -9)) i).trans ((congrArg ((agF x p) i) ee).trans (by first | with_reducible rfl | (simp only [c24, c62, if_true, if_false, ite_true, ite_false, and_true, true_and, and_false, false_and, and_self, or_true, true_or, or_false, false_or, or_self, not_true_eq_false, not_false_eq_true, decide_true, decide_false, Bool.and_true, Bool.true_and, Bool.and_false, Bool.false_and, Bool.and_self, Bool.or_true, Bool.true_or, Bool.or_false, Bool.false_or, Bool.not_true, Bool.not_false, cond_true, cond_false, bI_t, bI_f, Bool.false_eq_true, Bool.true_eq_false, dayC_1, dayC_21, dayC_221, dayC_222, agF]; done) | (simp only [eq_true c24, c62, if_true, if_false, ite_true, ite_false, and_true, true_and, and_false, false_and, and_self, or_true, true_or, or_false, false_or, or_self, not_true_eq_false, not_false_eq_true, decide_true, decide_false, Bool.and_true, Bool.true_and, Bool.and_false, Bool.false_and, Bool.and_self, Bool.or_true, Bool.true_or, Bool.or_false, Bool.false_or, Bool.not_true, Bool.not_false, cond_true, cond_false, bI_t, bI_f, Bool.false_eq_true, Bool.true_eq_false, dayC_1, dayC_21, dayC_221, dayC_222, agF]; done) | (simp [*, agF]; done) | with_reducible_and_instances rfl))) O19 O20 O1 hf) (sub_s (sub_s (sub_s (sub_s (sub_s (sub_s (sub_s (sub_n sub_nil))))))))
      · skip
        try simp only [bI_0, bI_n0, Classical.not_not, Bool.not_eq_false, Bool.true_and, Bool.and_true, decide_eq_true_eq, decide_eq_false_iff_not, dayC_1, dayC_21, dayC_221, dayC_222] at c24
        refine A_goto 85 dX6_agreeing_27 (by decide) ?_
        first | refine A_iincN 88 dX6_agreeing_85 rfl rfl (by decide) (by first | exact (ast_s (ast_s (ast_s (ast_s (ast_s (ast_1 rfl)))))) | exact (ast_s (ast_s (ast_s (ast_s (ast_s ast_k)))))) ?_ | refine A_iinc 88 (1) dX6_agreeing_85 rfl rfl (by decide) (by decide) (by first | exact (ast_s (ast_s (ast_s (ast_s (ast_s (ast_1 rfl)))))) | exact (ast_s (ast_s (ast_s (ast_s (ast_s ast_k)))))) ?_
        refine A_goto 10 dX6_agreeing_88 (by decide) ?_
        exact A_weak (ih n0 (Nat.lt_succ_self n0) (i + 1) _ _ g10 _ (by omega) ((foldN_s (agF x p) ((0, -9)) i).trans ((congrArg ((agF x p) i) ee).trans (by first | with_reducible rfl | (simp only [c24, if_true, if_false, ite_true, ite_false, and_true, true_and, and_false, false_and, and_self, or_true, true_or, or_false, false_or, or_self, not_true_eq_false, not_false_eq_true, decide_true, decide_false, Bool.and_true, Bool.true_and, Bool.and_false, Bool.false_and, Bool.and_self, Bool.or_true, Bool.true_or, Bool.or_false, Bool.false_or, Bool.not_true, Bool.not_false, cond_true, cond_false, bI_t, bI_f, Bool.false_eq_true, Bool.true_eq_false, dayC_1, dayC_21, dayC_221, dayC_222, agF]; done) | (simp [*, agF]; done) | with_reducible_and_instances rfl))) O19 O20 O1 hf) (sub_s (sub_s (sub_s (sub_s (sub_s (sub_s (sub_s (sub_n sub_nil))))))))
  exact A_weak (L10 (256) (0) (_) (_) h (_) (by omega) (rfl) O19 O20 O1 hf) (sub_s (sub_s (sub_s (sub_s (sub_s (sub_s (sub_s (sub_n sub_nil))))))))
set_option maxHeartbeats 4000000 in
set_option maxRecDepth 100000 in
theorem S_X6_fewestBrought (X : En) (l : Launch) {h : Hp} {x : PW} {y : PC} (O19 : h 19 = some (seB)) (O20 : h 20 = some (cB 20 y)) (O1 : h 1 = some (wB 1 x)) (hx : LOK x) {p ls : Int32} : Ct X l mX6_fewestBrought [aR 19 0, aR 1 0, aI p, aI ls] h (QI (fun vr h2 => (foldN (fbF x p ls) (-9) 256) = vr ∧ ∃ (y1 : PC), h2 (20) = some (cB 20 y1) ∧ ∀ i, i ≠ 20 → h2 i = h i)) := by
  have hf : ∀ i, i ≠ 20 → h i = h i := fun _ _ => rfl
  refine Ct.intro [some (aR 19 0), some (aR 1 0), some (aI p), some (aI ls), none, none] (by decide +kernel) rfl (Nat.le_of_ble_eq_true rfl) ?_
  refine A_bipush 2 (-9) dX6_fewestBrought_0 rfl (by decide) ?_
  refine A_istore 4 dX6_fewestBrought_2 rfl (by decide) (by first | exact (ast_s (ast_s (ast_s (ast_1 rfl)))) | exact (ast_s (ast_s (ast_s ast_k)))) ?_
  refine A_iconst 5 (0) dX6_fewestBrought_4 rfl (by decide) ?_
  refine A_istore 7 dX6_fewestBrought_5 rfl (by decide) (by first | exact (ast_s (ast_s (ast_s (ast_s (ast_1 rfl))))) | exact (ast_s (ast_s (ast_s (ast_s ast_k))))) ?_
  have L7 : ∀ (nq i : Nat) (u : Int32) (g7 : Hp) (y0 : PC), (nq + i = 256) → (foldN (fbF x p ls) (-9) i = (u)) → (g7 19 = some (seB)) → (g7 20 = some (cB 20 y0)) → (g7 1 = some (wB 1 x)) → (∀ i, i ≠ 20 → g7 i = h i) → Av X l mX6_fewestBrought 7 [some (aR 19 0), some (aR 1 0), some (aI (p)), some (aI (ls)), some (aI (u)), some (aI (nI (i)))] [] g7 (QI (fun vr h2 => (foldN (fbF x p ls) (-9) 256) = vr ∧ ∃ (y1 : PC), h2 (20) = some (cB 20 y1) ∧ ∀ i, i ≠ 20 → h2 i = h i)) := by
    intro nq
    induction nq using Nat.strongRecOn with
    | _ nq ih =>
    intro i u g7 y0 en ee O19 O20 O1 hf
    refine A_iload 9 dX6_fewestBrought_7 rfl rfl ?_
    refine A_sipush 12 (255) dX6_fewestBrought_9 rfl (by decide) ?_
    refine A_icmp_gt 70 15 dX6_fewestBrought_12 (by decide) rfl (fun c12 => ?_) (fun c12 => ?_)
    · skip
      obtain rfl := (up_gt_T (N := 256) c12 rfl (by omega) (by omega) (by omega)).symm
      refine A_iload 72 dX6_fewestBrought_70 rfl rfl ?_
      refine A_iret dX6_fewestBrought_72 rfl ⟨_, rfl, (by first | with_reducible rfl | (simp only [if_true, if_false, ite_true, ite_false, and_true, true_and, and_false, false_and, and_self, or_true, true_or, or_false, false_or, or_self, not_true_eq_false, not_false_eq_true, decide_true, decide_false, Bool.and_true, Bool.true_and, Bool.and_false, Bool.false_and, Bool.and_self, Bool.or_true, Bool.true_or, Bool.or_false, Bool.false_or, Bool.not_true, Bool.not_false, cond_true, cond_false, bI_t, bI_f, Bool.false_eq_true, Bool.true_eq_false, dayC_1, dayC_21, dayC_221, dayC_222]; done) | (simp only [*]; done) | (simp [bI, *]; done) | with_reducible_and_instances rfl), _, O20, hf⟩
    · skip
      have hi := up_gt_F (N := 256) c12 rfl (by omega) (by omega) (by omega)
      obtain ⟨n0, rfl⟩ : ∃ q, nq = q + 1 := ⟨nq - 1, by omega⟩
      refine A_iload 17 dX6_fewestBrought_15 rfl rfl ?_
      refine A_iload_n 18 dX6_fewestBrought_17 rfl rfl rfl ?_
      refine A_iand 19 dX6_fewestBrought_18 rfl ?_
      refine A_if_ne 64 22 dX6_fewestBrought_19 (by decide) rfl (fun c19 => ?_) (fun c19 => ?_)
      · skip
        try simp only [bI_0, bI_n0, Classical.not_not, Bool.not_eq_false, Bool.true_and, Bool.and_true, decide_eq_true_eq, decide_eq_false_iff_not, dayC_1, dayC_21, dayC_221, dayC_222] at c19
        first | refine A_iincN 67 dX6_fewestBrought_64 rfl rfl (by decide) (by first | exact (ast_s (ast_s (ast_s (ast_s (ast_1 rfl))))) | exact (ast_s (ast_s (ast_s (ast_s ast_k))))) ?_ | refine A_iinc 67 (1) dX6_fewestBrought_64 rfl rfl (by decide) (by decide) (by first | exact (ast_s (ast_s (ast_s (ast_s (ast_1 rfl))))) | exact (ast_s (ast_s (ast_s (ast_s ast_k))))) ?_
        refine A_goto 7 dX6_fewestBrought_67 (by decide) ?_
        exact ih n0 (Nat.lt_succ_self n0) (i + 1) _ g7 _ (by omega) ((foldN_s (fbF x p ls) (-9) i).trans ((congrArg ((fbF x p ls) i) ee).trans (by first | with_reducible rfl | (simp only [c19, if_true, if_false, ite_true, ite_false, and_true, true_and, and_false, false_and, and_self, or_true, true_or, or_false, false_or, or_self, not_true_eq_false, not_false_eq_true, decide_true, decide_false, Bool.and_true, Bool.true_and, Bool.and_false, Bool.false_and, Bool.and_self, Bool.or_true, Bool.true_or, Bool.or_false, Bool.false_or, Bool.not_true, Bool.not_false, cond_true, cond_false, bI_t, bI_f, Bool.false_eq_true, Bool.true_eq_false, dayC_1, dayC_21, dayC_221, dayC_222, fbF, dayC]; done) | (simp [*, fbF, dayC]; done) | with_reducible_and_instances rfl))) O19 O20 O1 hf
      · skip
        try simp only [bI_0, bI_n0, Classical.not_not, Bool.not_eq_false, Bool.true_and, Bool.and_true, decide_eq_true_eq, decide_eq_false_iff_not, dayC_1, dayC_21, dayC_221, dayC_222] at c19
        refine A_iload 24 dX6_fewestBrought_22 rfl rfl ?_
        refine A_iload 26 dX6_fewestBrought_24 rfl rfl ?_
        refine A_callNI 29 (S_X9_isFewer X l) dX6_fewestBrought_26 rfl kX9_isFewer nk_X6_18 rfl (by decide) rfl (Nat.le_of_ble_eq_true rfl) (fun v_1 h_1 qh_1 => ?_)
        obtain ⟨rfl, rfl⟩ := qh_1
        refine A_if_ne 35 32 dX6_fewestBrought_29 (by decide) rfl (fun c29 => ?_) (fun c29 => ?_)
        · skip
          try simp only [bI_0, bI_n0, Classical.not_not, Bool.not_eq_false, Bool.true_and, Bool.and_true, decide_eq_true_eq, decide_eq_false_iff_not, dayC_1, dayC_21, dayC_221, dayC_222] at c29
          refine A_aload_n 36 dX6_fewestBrought_35 rfl rfl rfl ?_
          refine A_getfield 39 dX6_fewestBrought_36 rfl f_X6_12 O19 rfl ?_
          refine A_aload_n 40 dX6_fewestBrought_39 rfl rfl rfl ?_
          refine A_iload_n 41 dX6_fewestBrought_40 rfl rfl rfl ?_
          refine A_iload 43 dX6_fewestBrought_41 rfl rfl ?_
          refine A_ior 44 dX6_fewestBrought_43 rfl ?_
          refine A_iconst 45 (0) dX6_fewestBrought_44 rfl (by decide) ?_
          refine A_callVI 48 (S_X1_run X l (by first | assumption | decide | omega | exact Ne.symm (by assumption)) (by first | assumption | decide | omega | exact Ne.symm (by assumption)) (by first | assumption | decide | omega | exact Ne.symm (by assumption)) (by first | assumption | decide | omega | exact Ne.symm (by assumption))) dX6_fewestBrought_45 rfl kX1_run lk_X6_22 rfl O20 (by decide) rfl (Nat.le_of_ble_eq_true rfl) (fun v_2 h_2 qh_2 => ?_)
          obtain ⟨rfl, n0h_2, eh_2⟩ := qh_2
          replace O19 := (eh_2 _ (by decide)).trans O19
          replace O20 := n0h_2
          replace O1 := (eh_2 _ (by decide)).trans O1
          replace hf : ∀ i, i ≠ 20 → h_2 i = h i := fun i g0 => (eh_2 i g0).trans (hf i g0)
          refine A_pop 49 dX6_fewestBrought_48 rfl rfl ?_
          refine A_aload_n 50 dX6_fewestBrought_49 rfl rfl rfl ?_
          refine A_getfield 53 dX6_fewestBrought_50 rfl f_X6_12 O19 rfl ?_
          refine A_iload_n 54 dX6_fewestBrought_53 rfl rfl rfl ?_
          refine A_callVI 57 (S_X1_does X l (by first | assumption | decide | omega | exact Ne.symm (by assumption))) dX6_fewestBrought_54 rfl kX1_does lk_X6_30 rfl O20 (by decide) rfl (Nat.le_of_ble_eq_true rfl) (fun v_3 h_3 qh_3 => ?_)
          obtain ⟨rfl, rfl⟩ := qh_3
          refine A_if_eq 64 60 dX6_fewestBrought_57 (by decide) rfl (fun c57 => ?_) (fun c57 => ?_)
          · skip
            try simp only [bI_0, bI_n0, Classical.not_not, Bool.not_eq_false, Bool.true_and, Bool.and_true, decide_eq_true_eq, decide_eq_false_iff_not, dayC_1, dayC_21, dayC_221, dayC_222] at c57
            first | refine A_iincN 67 dX6_fewestBrought_64 rfl rfl (by decide) (by first | exact (ast_s (ast_s (ast_s (ast_s (ast_1 rfl))))) | exact (ast_s (ast_s (ast_s (ast_s ast_k))))) ?_ | refine A_iinc 67 (1) dX6_fewestBrought_64 rfl rfl (by decide) (by decide) (by first | exact (ast_s (ast_s (ast_s (ast_s (ast_1 rfl))))) | exact (ast_s (ast_s (ast_s (ast_s ast_k))))) ?_
            refine A_goto 7 dX6_fewestBrought_67 (by decide) ?_
            exact ih n0 (Nat.lt_succ_self n0) (i + 1) _ h_2 _ (by omega) ((foldN_s (fbF x p ls) (-9) i).trans ((congrArg ((fbF x p ls) i) ee).trans (by first | with_reducible rfl | (simp only [c19, c29, c57, if_true, if_false, ite_true, ite_false, and_true, true_and, and_false, false_and, and_self, or_true, true_or, or_false, false_or, or_self, not_true_eq_false, not_false_eq_true, decide_true, decide_false, Bool.and_true, Bool.true_and, Bool.and_false, Bool.false_and, Bool.and_self, Bool.or_true, Bool.true_or, Bool.or_false, Bool.false_or, Bool.not_true, Bool.not_false, cond_true, cond_false, bI_t, bI_f, Bool.false_eq_true, Bool.true_eq_false, dayC_1, dayC_21, dayC_221, dayC_222, fbF, dayC]; done) | (simp only [eq_true c19, c29, c57, if_true, if_false, ite_true, ite_false, and_true, true_and, and_false, false_and, and_self, or_true, true_or, or_false, false_or, or_self, not_true_eq_false, not_false_eq_true, decide_true, decide_false, Bool.and_true, Bool.true_and, Bool.and_false, Bool.false_and, Bool.and_self, Bool.or_true, Bool.true_or, Bool.or_false, Bool.false_or, Bool.not_true, Bool.not_false, cond_true, cond_false, bI_t, bI_f, Bool.false_eq_true, Bool.true_eq_false, dayC_1, dayC_21, dayC_221, dayC_222, fbF, dayC]; done) | (simp [*, fbF, dayC]; done) | with_reducible_and_instances rfl))) O19 O20 O1 hf
          · skip
            try simp only [bI_0, bI_n0, Classical.not_not, Bool.not_eq_false, Bool.true_and, Bool.and_true, decide_eq_true_eq, decide_eq_false_iff_not, dayC_1, dayC_21, dayC_221, dayC_222] at c57
            refine A_iload 62 dX6_fewestBrought_60 rfl rfl ?_
            refine A_istore 64 dX6_fewestBrought_62 rfl (by decide) (by first | exact (ast_s (ast_s (ast_s (ast_1 rfl)))) | exact (ast_s (ast_s (ast_s ast_k)))) ?_
            first | refine A_iincN 67 dX6_fewestBrought_64 rfl rfl (by decide) (by first | exact (ast_s (ast_s (ast_s (ast_s (ast_1 rfl))))) | exact (ast_s (ast_s (ast_s (ast_s ast_k))))) ?_ | refine A_iinc 67 (1) dX6_fewestBrought_64 rfl rfl (by decide) (by decide) (by first | exact (ast_s (ast_s (ast_s (ast_s (ast_1 rfl))))) | exact (ast_s (ast_s (ast_s (ast_s ast_k))))) ?_
            refine A_goto 7 dX6_fewestBrought_67 (by decide) ?_
            exact ih n0 (Nat.lt_succ_self n0) (i + 1) _ h_2 _ (by omega) ((foldN_s (fbF x p ls) (-9) i).trans ((congrArg ((fbF x p ls) i) ee).trans (by first | with_reducible rfl | (simp only [c19, c29, c57, if_true, if_false, ite_true, ite_false, and_true, true_and, and_false, false_and, and_self, or_true, true_or, or_false, false_or, or_self, not_true_eq_false, not_false_eq_true, decide_true, decide_false, Bool.and_true, Bool.true_and, Bool.and_false, Bool.false_and, Bool.and_self, Bool.or_true, Bool.true_or, Bool.or_false, Bool.false_or, Bool.not_true, Bool.not_false, cond_true, cond_false, bI_t, bI_f, Bool.false_eq_true, Bool.true_eq_false, dayC_1, dayC_21, dayC_221, dayC_222, fbF, dayC]; done) | (simp only [eq_true c19, c29, c57, if_true, if_false, ite_true, ite_false, and_true, true_and, and_false, false_and, and_self, or_true, true_or, or_false, false_or, or_self, not_true_eq_false, not_false_eq_true, decide_true, decide_false, Bool.and_true, Bool.true_and, Bool.and_false, Bool.false_and, Bool.and_self, Bool.or_true, Bool.true_or, Bool.or_false, Bool.false_or, Bool.not_true, Bool.not_false, cond_true, cond_false, bI_t, bI_f, Bool.false_eq_true, Bool.true_eq_false, dayC_1, dayC_21, dayC_221, dayC_222, fbF, dayC]; done) | (simp [*, fbF, dayC]; done) | with_reducible_and_instances rfl))) O19 O20 O1 hf
        · skip
          try simp only [bI_0, bI_n0, Classical.not_not, Bool.not_eq_false, Bool.true_and, Bool.and_true, decide_eq_true_eq, decide_eq_false_iff_not, dayC_1, dayC_21, dayC_221, dayC_222] at c29
          refine A_goto 64 dX6_fewestBrought_32 (by decide) ?_
          first | refine A_iincN 67 dX6_fewestBrought_64 rfl rfl (by decide) (by first | exact (ast_s (ast_s (ast_s (ast_s (ast_1 rfl))))) | exact (ast_s (ast_s (ast_s (ast_s ast_k))))) ?_ | refine A_iinc 67 (1) dX6_fewestBrought_64 rfl rfl (by decide) (by decide) (by first | exact (ast_s (ast_s (ast_s (ast_s (ast_1 rfl))))) | exact (ast_s (ast_s (ast_s (ast_s ast_k))))) ?_
          refine A_goto 7 dX6_fewestBrought_67 (by decide) ?_
          exact ih n0 (Nat.lt_succ_self n0) (i + 1) _ g7 _ (by omega) ((foldN_s (fbF x p ls) (-9) i).trans ((congrArg ((fbF x p ls) i) ee).trans (by first | with_reducible rfl | (simp only [c19, c29, if_true, if_false, ite_true, ite_false, and_true, true_and, and_false, false_and, and_self, or_true, true_or, or_false, false_or, or_self, not_true_eq_false, not_false_eq_true, decide_true, decide_false, Bool.and_true, Bool.true_and, Bool.and_false, Bool.false_and, Bool.and_self, Bool.or_true, Bool.true_or, Bool.or_false, Bool.false_or, Bool.not_true, Bool.not_false, cond_true, cond_false, bI_t, bI_f, Bool.false_eq_true, Bool.true_eq_false, dayC_1, dayC_21, dayC_221, dayC_222, fbF, dayC]; done) | (simp only [eq_true c19, c29, if_true, if_false, ite_true, ite_false, and_true, true_and, and_false, false_and, and_self, or_true, true_or, or_false, false_or, or_self, not_true_eq_false, not_false_eq_true, decide_true, decide_false, Bool.and_true, Bool.true_and, Bool.and_false, Bool.false_and, Bool.and_self, Bool.or_true, Bool.true_or, Bool.or_false, Bool.false_or, Bool.not_true, Bool.not_false, cond_true, cond_false, bI_t, bI_f, Bool.false_eq_true, Bool.true_eq_false, dayC_1, dayC_21, dayC_221, dayC_222, fbF, dayC]; done) | (simp [*, fbF, dayC]; done) | with_reducible_and_instances rfl))) O19 O20 O1 hf
  exact L7 (256) (0) (_) h (_) (by omega) (rfl) O19 O20 O1 hf
set_option maxHeartbeats 4000000 in
set_option maxRecDepth 100000 in
theorem S_X6_busiestPockets (X : En) (l : Launch) {h : Hp} {x : PW} {y : PC} (O19 : h 19 = some (seB)) (O20 : h 20 = some (cB 20 y)) (O1 : h 1 = some (wB 1 x)) (hx : LOK x) : Ct X l mX6_busiestPockets [aR 19 0, aR 1 0] h (QI (fun vr h2 => ((foldN (buF x) (0, -1) 256).1) = vr ∧ ∃ (y1 : PC), h2 (20) = some (cB 20 y1) ∧ ∀ i, i ≠ 20 → h2 i = h i)) := by
  have hf : ∀ i, i ≠ 20 → h i = h i := fun _ _ => rfl
  refine Ct.intro [some (aR 19 0), some (aR 1 0), none, none, none, none] (by decide +kernel) rfl (Nat.le_of_ble_eq_true rfl) ?_
  refine A_iconst 1 (0) dX6_busiestPockets_0 rfl (by decide) ?_
  refine A_istore_n 2 dX6_busiestPockets_1 rfl rfl (by decide) (by first | exact (ast_s (ast_1 rfl)) | exact (ast_s ast_k)) ?_
  refine A_iconst 3 (-1) dX6_busiestPockets_2 rfl (by decide) ?_
  refine A_istore_n 4 dX6_busiestPockets_3 rfl rfl (by decide) (by first | exact (ast_s (ast_s (ast_1 rfl))) | exact (ast_s (ast_s ast_k))) ?_
  refine A_iconst 5 (0) dX6_busiestPockets_4 rfl (by decide) ?_
  refine A_istore 7 dX6_busiestPockets_5 rfl (by decide) (by first | exact (ast_s (ast_s (ast_s (ast_1 rfl)))) | exact (ast_s (ast_s (ast_s ast_k)))) ?_
  have L7 : ∀ (nq i : Nat) (u v : Int32) (g7 : Hp) (y0 : PC), (nq + i = 256) → (foldN (buF x) ((0, -1)) i = (u, v)) → (g7 19 = some (seB)) → (g7 20 = some (cB 20 y0)) → (g7 1 = some (wB 1 x)) → (∀ i, i ≠ 20 → g7 i = h i) → Av X l mX6_busiestPockets 7 [some (aR 19 0), some (aR 1 0), some (aI (u)), some (aI (v)), some (aI (nI (i))), none] [] g7 (QI (fun vr h2 => ((foldN (buF x) (0, -1) 256).1) = vr ∧ ∃ (y1 : PC), h2 (20) = some (cB 20 y1) ∧ ∀ i, i ≠ 20 → h2 i = h i)) := by
    intro nq
    induction nq using Nat.strongRecOn with
    | _ nq ih =>
    intro i u v g7 y0 en ee O19 O20 O1 hf
    refine A_iload 9 dX6_busiestPockets_7 rfl rfl ?_
    refine A_sipush 12 (255) dX6_busiestPockets_9 rfl (by decide) ?_
    refine A_icmp_gt 45 15 dX6_busiestPockets_12 (by decide) rfl (fun c12 => ?_) (fun c12 => ?_)
    · skip
      obtain rfl := (up_gt_T (N := 256) c12 rfl (by omega) (by omega) (by omega)).symm
      refine A_iload_n 46 dX6_busiestPockets_45 rfl rfl rfl ?_
      refine A_iret dX6_busiestPockets_46 rfl ⟨_, rfl, (by rw [ee]), _, O20, hf⟩
    · skip
      have hi := up_gt_F (N := 256) c12 rfl (by omega) (by omega) (by omega)
      obtain ⟨n0, rfl⟩ : ∃ q, nq = q + 1 := ⟨nq - 1, by omega⟩
      refine A_aload_n 16 dX6_busiestPockets_15 rfl rfl rfl ?_
      refine A_getfield 19 dX6_busiestPockets_16 rfl f_X6_12 O19 rfl ?_
      refine A_aload_n 20 dX6_busiestPockets_19 rfl rfl rfl ?_
      refine A_iload 22 dX6_busiestPockets_20 rfl rfl ?_
      refine A_callVI 25 (S_X1_countDone X l (by first | assumption | decide | omega | exact Ne.symm (by assumption)) (by first | assumption | decide | omega | exact Ne.symm (by assumption)) (by first | assumption | decide | omega | exact Ne.symm (by assumption)) (by first | assumption | decide | omega | exact Ne.symm (by assumption))) dX6_busiestPockets_22 rfl kX1_countDone lk_X6_34 rfl O20 (by decide) rfl (Nat.le_of_ble_eq_true rfl) (fun v_1 h_1 qh_1 => ?_)
      obtain ⟨rfl, n0h_1, eh_1⟩ := qh_1
      replace O19 := (eh_1 _ (by decide)).trans O19
      replace O20 := n0h_1
      replace O1 := (eh_1 _ (by decide)).trans O1
      replace hf : ∀ i, i ≠ 20 → h_1 i = h i := fun i g0 => (eh_1 i g0).trans (hf i g0)
      refine A_istore 27 dX6_busiestPockets_25 rfl (by decide) (by first | exact (ast_s (ast_s (ast_s (ast_s (ast_1 rfl))))) | exact (ast_s (ast_s (ast_s (ast_s ast_k))))) ?_
      refine A_iload 29 dX6_busiestPockets_27 rfl rfl ?_
      refine A_iload_n 30 dX6_busiestPockets_29 rfl rfl rfl ?_
      refine A_icmp_le 39 33 dX6_busiestPockets_30 (by decide) rfl (fun c30 => ?_) (fun c30 => ?_)
      · skip
        try simp only [bI_0, bI_n0, Classical.not_not, Bool.not_eq_false, Bool.true_and, Bool.and_true, decide_eq_true_eq, decide_eq_false_iff_not, dayC_1, dayC_21, dayC_221, dayC_222] at c30
        have n30 := c30
        replace c30 := Int32.not_lt.mpr c30
        first | refine A_iincN 42 dX6_busiestPockets_39 rfl rfl (by decide) (by first | exact (ast_s (ast_s (ast_s (ast_1 rfl)))) | exact (ast_s (ast_s (ast_s ast_k)))) ?_ | refine A_iinc 42 (1) dX6_busiestPockets_39 rfl rfl (by decide) (by decide) (by first | exact (ast_s (ast_s (ast_s (ast_1 rfl)))) | exact (ast_s (ast_s (ast_s ast_k)))) ?_
        refine A_goto 7 dX6_busiestPockets_42 (by decide) ?_
        exact A_weak (ih n0 (Nat.lt_succ_self n0) (i + 1) _ _ h_1 _ (by omega) ((foldN_s (buF x) ((0, -1)) i).trans ((congrArg ((buF x) i) ee).trans (by first | with_reducible rfl | (simp only [c30, n30, if_true, if_false, ite_true, ite_false, and_true, true_and, and_false, false_and, and_self, or_true, true_or, or_false, false_or, or_self, not_true_eq_false, not_false_eq_true, decide_true, decide_false, Bool.and_true, Bool.true_and, Bool.and_false, Bool.false_and, Bool.and_self, Bool.or_true, Bool.true_or, Bool.or_false, Bool.false_or, Bool.not_true, Bool.not_false, cond_true, cond_false, bI_t, bI_f, Bool.false_eq_true, Bool.true_eq_false, dayC_1, dayC_21, dayC_221, dayC_222, buF]; done) | (simp [*, buF]; done) | with_reducible_and_instances rfl))) O19 O20 O1 hf) (sub_s (sub_s (sub_s (sub_s (sub_s (sub_n sub_nil))))))
      · skip
        try simp only [bI_0, bI_n0, Classical.not_not, Bool.not_eq_false, Bool.true_and, Bool.and_true, decide_eq_true_eq, decide_eq_false_iff_not, dayC_1, dayC_21, dayC_221, dayC_222] at c30
        have n30 := c30
        replace c30 := Int32.not_le.mp c30
        refine A_iload 35 dX6_busiestPockets_33 rfl rfl ?_
        refine A_istore_n 36 dX6_busiestPockets_35 rfl rfl (by decide) (by first | exact (ast_s (ast_s (ast_1 rfl))) | exact (ast_s (ast_s ast_k))) ?_
        refine A_iload 38 dX6_busiestPockets_36 rfl rfl ?_
        refine A_istore_n 39 dX6_busiestPockets_38 rfl rfl (by decide) (by first | exact (ast_s (ast_1 rfl)) | exact (ast_s ast_k)) ?_
        first | refine A_iincN 42 dX6_busiestPockets_39 rfl rfl (by decide) (by first | exact (ast_s (ast_s (ast_s (ast_1 rfl)))) | exact (ast_s (ast_s (ast_s ast_k)))) ?_ | refine A_iinc 42 (1) dX6_busiestPockets_39 rfl rfl (by decide) (by decide) (by first | exact (ast_s (ast_s (ast_s (ast_1 rfl)))) | exact (ast_s (ast_s (ast_s ast_k)))) ?_
        refine A_goto 7 dX6_busiestPockets_42 (by decide) ?_
        exact A_weak (ih n0 (Nat.lt_succ_self n0) (i + 1) _ _ h_1 _ (by omega) ((foldN_s (buF x) ((0, -1)) i).trans ((congrArg ((buF x) i) ee).trans (by first | with_reducible rfl | (simp only [c30, n30, if_true, if_false, ite_true, ite_false, and_true, true_and, and_false, false_and, and_self, or_true, true_or, or_false, false_or, or_self, not_true_eq_false, not_false_eq_true, decide_true, decide_false, Bool.and_true, Bool.true_and, Bool.and_false, Bool.false_and, Bool.and_self, Bool.or_true, Bool.true_or, Bool.or_false, Bool.false_or, Bool.not_true, Bool.not_false, cond_true, cond_false, bI_t, bI_f, Bool.false_eq_true, Bool.true_eq_false, dayC_1, dayC_21, dayC_221, dayC_222, buF]; done) | (simp [*, buF]; done) | with_reducible_and_instances rfl))) O19 O20 O1 hf) (sub_s (sub_s (sub_s (sub_s (sub_s (sub_n sub_nil))))))
  exact A_weak (L7 (256) (0) (_) (_) h (_) (by omega) (rfl) O19 O20 O1 hf) (sub_s (sub_s (sub_s (sub_s (sub_s (sub_n sub_nil))))))
set_option maxHeartbeats 4000000 in
set_option maxRecDepth 100000 in
theorem S_X6_waysTo (X : En) (l : Launch) {h : Hp} {x : PW} {y : PC} (O19 : h 19 = some (seB)) (O20 : h 20 = some (cB 20 y)) (O1 : h 1 = some (wB 1 x)) (hx : LOK x) {ls : Int32} : Ct X l mX6_waysTo [aR 19 0, aR 1 0, aI ls] h (QI (fun vr h2 => (foldN (wyF x ls) 0 256) = vr ∧ ∃ (y1 : PC), h2 (20) = some (cB 20 y1) ∧ ∀ i, i ≠ 20 → h2 i = h i)) := by
  have hf : ∀ i, i ≠ 20 → h i = h i := fun _ _ => rfl
  refine Ct.intro [some (aR 19 0), some (aR 1 0), some (aI ls), none, none] (by decide +kernel) rfl (Nat.le_of_ble_eq_true rfl) ?_
  refine A_iconst 1 (0) dX6_waysTo_0 rfl (by decide) ?_
  refine A_istore_n 2 dX6_waysTo_1 rfl rfl (by decide) (by first | exact (ast_s (ast_s (ast_1 rfl))) | exact (ast_s (ast_s ast_k))) ?_
  refine A_iconst 3 (0) dX6_waysTo_2 rfl (by decide) ?_
  refine A_istore 5 dX6_waysTo_3 rfl (by decide) (by first | exact (ast_s (ast_s (ast_s (ast_1 rfl)))) | exact (ast_s (ast_s (ast_s ast_k)))) ?_
  have L5 : ∀ (nq i : Nat) (u : Int32) (g5 : Hp) (y0 : PC), (nq + i = 256) → (foldN (wyF x ls) (0) i = (u)) → (g5 19 = some (seB)) → (g5 20 = some (cB 20 y0)) → (g5 1 = some (wB 1 x)) → (∀ i, i ≠ 20 → g5 i = h i) → Av X l mX6_waysTo 5 [some (aR 19 0), some (aR 1 0), some (aI (ls)), some (aI (u)), some (aI (nI (i)))] [] g5 (QI (fun vr h2 => (foldN (wyF x ls) 0 256) = vr ∧ ∃ (y1 : PC), h2 (20) = some (cB 20 y1) ∧ ∀ i, i ≠ 20 → h2 i = h i)) := by
    intro nq
    induction nq using Nat.strongRecOn with
    | _ nq ih =>
    intro i u g5 y0 en ee O19 O20 O1 hf
    refine A_iload 7 dX6_waysTo_5 rfl rfl ?_
    refine A_sipush 10 (255) dX6_waysTo_7 rfl (by decide) ?_
    refine A_icmp_gt 45 13 dX6_waysTo_10 (by decide) rfl (fun c10 => ?_) (fun c10 => ?_)
    · skip
      obtain rfl := (up_gt_T (N := 256) c10 rfl (by omega) (by omega) (by omega)).symm
      refine A_iload_n 46 dX6_waysTo_45 rfl rfl rfl ?_
      refine A_iret dX6_waysTo_46 rfl ⟨_, rfl, (by first | with_reducible rfl | (simp only [if_true, if_false, ite_true, ite_false, and_true, true_and, and_false, false_and, and_self, or_true, true_or, or_false, false_or, or_self, not_true_eq_false, not_false_eq_true, decide_true, decide_false, Bool.and_true, Bool.true_and, Bool.and_false, Bool.false_and, Bool.and_self, Bool.or_true, Bool.true_or, Bool.or_false, Bool.false_or, Bool.not_true, Bool.not_false, cond_true, cond_false, bI_t, bI_f, Bool.false_eq_true, Bool.true_eq_false, dayC_1, dayC_21, dayC_221, dayC_222]; done) | (simp only [*]; done) | (simp [bI, *]; done) | with_reducible_and_instances rfl), _, O20, hf⟩
    · skip
      have hi := up_gt_F (N := 256) c10 rfl (by omega) (by omega) (by omega)
      obtain ⟨n0, rfl⟩ : ∃ q, nq = q + 1 := ⟨nq - 1, by omega⟩
      refine A_aload_n 14 dX6_waysTo_13 rfl rfl rfl ?_
      refine A_getfield 17 dX6_waysTo_14 rfl f_X6_12 O19 rfl ?_
      refine A_aload_n 18 dX6_waysTo_17 rfl rfl rfl ?_
      refine A_iload 20 dX6_waysTo_18 rfl rfl ?_
      refine A_iconst 21 (0) dX6_waysTo_20 rfl (by decide) ?_
      refine A_callVI 24 (S_X1_run X l (by first | assumption | decide | omega | exact Ne.symm (by assumption)) (by first | assumption | decide | omega | exact Ne.symm (by assumption)) (by first | assumption | decide | omega | exact Ne.symm (by assumption)) (by first | assumption | decide | omega | exact Ne.symm (by assumption))) dX6_waysTo_21 rfl kX1_run lk_X6_22 rfl O20 (by decide) rfl (Nat.le_of_ble_eq_true rfl) (fun v_1 h_1 qh_1 => ?_)
      obtain ⟨rfl, n0h_1, eh_1⟩ := qh_1
      replace O19 := (eh_1 _ (by decide)).trans O19
      replace O20 := n0h_1
      replace O1 := (eh_1 _ (by decide)).trans O1
      replace hf : ∀ i, i ≠ 20 → h_1 i = h i := fun i g0 => (eh_1 i g0).trans (hf i g0)
      refine A_pop 25 dX6_waysTo_24 rfl rfl ?_
      refine A_aload_n 26 dX6_waysTo_25 rfl rfl rfl ?_
      refine A_getfield 29 dX6_waysTo_26 rfl f_X6_12 O19 rfl ?_
      refine A_iload_n 30 dX6_waysTo_29 rfl rfl rfl ?_
      refine A_callVI 33 (S_X1_does X l (by first | assumption | decide | omega | exact Ne.symm (by assumption))) dX6_waysTo_30 rfl kX1_does lk_X6_30 rfl O20 (by decide) rfl (Nat.le_of_ble_eq_true rfl) (fun v_2 h_2 qh_2 => ?_)
      obtain ⟨rfl, rfl⟩ := qh_2
      refine A_if_eq 39 36 dX6_waysTo_33 (by decide) rfl (fun c33 => ?_) (fun c33 => ?_)
      · skip
        try simp only [bI_0, bI_n0, Classical.not_not, Bool.not_eq_false, Bool.true_and, Bool.and_true, decide_eq_true_eq, decide_eq_false_iff_not, dayC_1, dayC_21, dayC_221, dayC_222] at c33
        first | refine A_iincN 42 dX6_waysTo_39 rfl rfl (by decide) (by first | exact (ast_s (ast_s (ast_s (ast_1 rfl)))) | exact (ast_s (ast_s (ast_s ast_k)))) ?_ | refine A_iinc 42 (1) dX6_waysTo_39 rfl rfl (by decide) (by decide) (by first | exact (ast_s (ast_s (ast_s (ast_1 rfl)))) | exact (ast_s (ast_s (ast_s ast_k)))) ?_
        refine A_goto 5 dX6_waysTo_42 (by decide) ?_
        exact ih n0 (Nat.lt_succ_self n0) (i + 1) _ h_1 _ (by omega) ((foldN_s (wyF x ls) (0) i).trans ((congrArg ((wyF x ls) i) ee).trans (by first | with_reducible rfl | (simp only [c33, if_true, if_false, ite_true, ite_false, and_true, true_and, and_false, false_and, and_self, or_true, true_or, or_false, false_or, or_self, not_true_eq_false, not_false_eq_true, decide_true, decide_false, Bool.and_true, Bool.true_and, Bool.and_false, Bool.false_and, Bool.and_self, Bool.or_true, Bool.true_or, Bool.or_false, Bool.false_or, Bool.not_true, Bool.not_false, cond_true, cond_false, bI_t, bI_f, Bool.false_eq_true, Bool.true_eq_false, dayC_1, dayC_21, dayC_221, dayC_222, wyF, dayC]; done) | (simp [*, wyF, dayC]; done) | with_reducible_and_instances rfl))) O19 O20 O1 hf
      · skip
        try simp only [bI_0, bI_n0, Classical.not_not, Bool.not_eq_false, Bool.true_and, Bool.and_true, decide_eq_true_eq, decide_eq_false_iff_not, dayC_1, dayC_21, dayC_221, dayC_222] at c33
        first | refine A_iincN 39 dX6_waysTo_36 rfl rfl (by decide) (by first | exact (ast_s (ast_s (ast_1 rfl))) | exact (ast_s (ast_s ast_k))) ?_ | refine A_iinc 39 (1) dX6_waysTo_36 rfl rfl (by decide) (by decide) (by first | exact (ast_s (ast_s (ast_1 rfl))) | exact (ast_s (ast_s ast_k))) ?_
        first | refine A_iincN 42 dX6_waysTo_39 rfl rfl (by decide) (by first | exact (ast_s (ast_s (ast_s (ast_1 rfl)))) | exact (ast_s (ast_s (ast_s ast_k)))) ?_ | refine A_iinc 42 (1) dX6_waysTo_39 rfl rfl (by decide) (by decide) (by first | exact (ast_s (ast_s (ast_s (ast_1 rfl)))) | exact (ast_s (ast_s (ast_s ast_k)))) ?_
        refine A_goto 5 dX6_waysTo_42 (by decide) ?_
        exact ih n0 (Nat.lt_succ_self n0) (i + 1) _ h_1 _ (by omega) ((foldN_s (wyF x ls) (0) i).trans ((congrArg ((wyF x ls) i) ee).trans (by first | with_reducible rfl | (simp only [c33, if_true, if_false, ite_true, ite_false, and_true, true_and, and_false, false_and, and_self, or_true, true_or, or_false, false_or, or_self, not_true_eq_false, not_false_eq_true, decide_true, decide_false, Bool.and_true, Bool.true_and, Bool.and_false, Bool.false_and, Bool.and_self, Bool.or_true, Bool.true_or, Bool.or_false, Bool.false_or, Bool.not_true, Bool.not_false, cond_true, cond_false, bI_t, bI_f, Bool.false_eq_true, Bool.true_eq_false, dayC_1, dayC_21, dayC_221, dayC_222, wyF, dayC]; done) | (simp [*, wyF, dayC]; done) | with_reducible_and_instances rfl))) O19 O20 O1 hf
  exact L5 (256) (0) (_) h (_) (by omega) (rfl) O19 O20 O1 hf
set_option maxHeartbeats 4000000 in
set_option maxRecDepth 100000 in
theorem S_X6_earliestOf (X : En) (l : Launch) {h : Hp} {x : PW} {y : PC} (O19 : h 19 = some (seB)) (O20 : h 20 = some (cB 20 y)) (O1 : h 1 = some (wB 1 x)) (hx : LOK x) {ls wh : Int32} : Ct X l mX6_earliestOf [aR 19 0, aR 1 0, aI ls, aI wh] h (QI (fun vr h2 => (if wh = 0 then (foldN (eaF x ls) (-9, -9) 256).1 else (foldN (eaF x ls) (-9, -9) 256).2) = vr ∧ ∃ (y1 : PC), h2 (20) = some (cB 20 y1) ∧ ∀ i, i ≠ 20 → h2 i = h i)) := by
  have hf : ∀ i, i ≠ 20 → h i = h i := fun _ _ => rfl
  refine Ct.intro [some (aR 19 0), some (aR 1 0), some (aI ls), some (aI wh), none, none, none, none] (by decide +kernel) rfl (Nat.le_of_ble_eq_true rfl) ?_
  refine A_bipush 2 (-9) dX6_earliestOf_0 rfl (by decide) ?_
  refine A_istore 4 dX6_earliestOf_2 rfl (by decide) (by first | exact (ast_s (ast_s (ast_s (ast_1 rfl)))) | exact (ast_s (ast_s (ast_s ast_k)))) ?_
  refine A_bipush 6 (-9) dX6_earliestOf_4 rfl (by decide) ?_
  refine A_istore 8 dX6_earliestOf_6 rfl (by decide) (by first | exact (ast_s (ast_s (ast_s (ast_s (ast_1 rfl))))) | exact (ast_s (ast_s (ast_s (ast_s ast_k))))) ?_
  refine A_iconst 9 (0) dX6_earliestOf_8 rfl (by decide) ?_
  refine A_istore 11 dX6_earliestOf_9 rfl (by decide) (by first | exact (ast_s (ast_s (ast_s (ast_s (ast_s (ast_1 rfl)))))) | exact (ast_s (ast_s (ast_s (ast_s (ast_s ast_k)))))) ?_
  have L11 : ∀ (nq i : Nat) (u v : Int32) (g11 : Hp) (y0 : PC), (nq + i = 256) → (foldN (eaF x ls) ((-9, -9)) i = (u, v)) → (g11 19 = some (seB)) → (g11 20 = some (cB 20 y0)) → (g11 1 = some (wB 1 x)) → (∀ i, i ≠ 20 → g11 i = h i) → Av X l mX6_earliestOf 11 [some (aR 19 0), some (aR 1 0), some (aI (ls)), some (aI (wh)), some (aI (u)), some (aI (v)), some (aI (nI (i))), none] [] g11 (QI (fun vr h2 => (if wh = 0 then (foldN (eaF x ls) (-9, -9) 256).1 else (foldN (eaF x ls) (-9, -9) 256).2) = vr ∧ ∃ (y1 : PC), h2 (20) = some (cB 20 y1) ∧ ∀ i, i ≠ 20 → h2 i = h i)) := by
    intro nq
    induction nq using Nat.strongRecOn with
    | _ nq ih =>
    intro i u v g11 y0 en ee O19 O20 O1 hf
    refine A_iload 13 dX6_earliestOf_11 rfl rfl ?_
    refine A_sipush 16 (255) dX6_earliestOf_13 rfl (by decide) ?_
    refine A_icmp_gt 76 19 dX6_earliestOf_16 (by decide) rfl (fun c16 => ?_) (fun c16 => ?_)
    · skip
      obtain rfl := (up_gt_T (N := 256) c16 rfl (by omega) (by omega) (by omega)).symm
      refine A_iload_n 77 dX6_earliestOf_76 rfl rfl rfl ?_
      refine A_if_ne 85 80 dX6_earliestOf_77 (by decide) rfl (fun c77 => ?_) (fun c77 => ?_)
      · skip
        try simp only [bI_0, bI_n0, Classical.not_not, Bool.not_eq_false, Bool.true_and, Bool.and_true, decide_eq_true_eq, decide_eq_false_iff_not, dayC_1, dayC_21, dayC_221, dayC_222] at c77
        refine A_iload 87 dX6_earliestOf_85 rfl rfl ?_
        refine A_iret dX6_earliestOf_87 rfl ⟨_, rfl, (by rw [ee]; simp [*]), _, O20, hf⟩
      · skip
        try simp only [bI_0, bI_n0, Classical.not_not, Bool.not_eq_false, Bool.true_and, Bool.and_true, decide_eq_true_eq, decide_eq_false_iff_not, dayC_1, dayC_21, dayC_221, dayC_222] at c77
        refine A_iload 82 dX6_earliestOf_80 rfl rfl ?_
        refine A_goto 87 dX6_earliestOf_82 (by decide) ?_
        refine A_iret dX6_earliestOf_87 rfl ⟨_, rfl, (by rw [ee]; simp [*]), _, O20, hf⟩
    · skip
      have hi := up_gt_F (N := 256) c16 rfl (by omega) (by omega) (by omega)
      obtain ⟨n0, rfl⟩ : ∃ q, nq = q + 1 := ⟨nq - 1, by omega⟩
      refine A_aload_n 20 dX6_earliestOf_19 rfl rfl rfl ?_
      refine A_getfield 23 dX6_earliestOf_20 rfl f_X6_12 O19 rfl ?_
      refine A_aload_n 24 dX6_earliestOf_23 rfl rfl rfl ?_
      refine A_iload 26 dX6_earliestOf_24 rfl rfl ?_
      refine A_iconst 27 (0) dX6_earliestOf_26 rfl (by decide) ?_
      refine A_callVI 30 (S_X1_run X l (by first | assumption | decide | omega | exact Ne.symm (by assumption)) (by first | assumption | decide | omega | exact Ne.symm (by assumption)) (by first | assumption | decide | omega | exact Ne.symm (by assumption)) (by first | assumption | decide | omega | exact Ne.symm (by assumption))) dX6_earliestOf_27 rfl kX1_run lk_X6_22 rfl O20 (by decide) rfl (Nat.le_of_ble_eq_true rfl) (fun v_1 h_1 qh_1 => ?_)
      obtain ⟨rfl, n0h_1, eh_1⟩ := qh_1
      replace O19 := (eh_1 _ (by decide)).trans O19
      replace O20 := n0h_1
      replace O1 := (eh_1 _ (by decide)).trans O1
      replace hf : ∀ i, i ≠ 20 → h_1 i = h i := fun i g0 => (eh_1 i g0).trans (hf i g0)
      refine A_pop 31 dX6_earliestOf_30 rfl rfl ?_
      refine A_aload_n 32 dX6_earliestOf_31 rfl rfl rfl ?_
      refine A_getfield 35 dX6_earliestOf_32 rfl f_X6_12 O19 rfl ?_
      refine A_iload_n 36 dX6_earliestOf_35 rfl rfl rfl ?_
      refine A_callVI 39 (S_X1_hourOf X l (by first | assumption | decide | omega | exact Ne.symm (by assumption))) dX6_earliestOf_36 rfl kX1_hourOf lk_X6_38 rfl O20 (by decide) rfl (Nat.le_of_ble_eq_true rfl) (fun v_2 h_2 qh_2 => ?_)
      obtain ⟨rfl, rfl⟩ := qh_2
      refine A_istore 41 dX6_earliestOf_39 rfl (by decide) (by first | exact (ast_s (ast_s (ast_s (ast_s (ast_s (ast_s (ast_1 rfl))))))) | exact (ast_s (ast_s (ast_s (ast_s (ast_s (ast_s ast_k))))))) ?_
      refine A_iload 43 dX6_earliestOf_41 rfl rfl ?_
      refine A_bipush 45 (-9) dX6_earliestOf_43 rfl (by decide) ?_
      refine A_icmp_eq 70 48 dX6_earliestOf_45 (by decide) rfl (fun c45 => ?_) (fun c45 => ?_)
      · skip
        try simp only [bI_0, bI_n0, Classical.not_not, Bool.not_eq_false, Bool.true_and, Bool.and_true, decide_eq_true_eq, decide_eq_false_iff_not, dayC_1, dayC_21, dayC_221, dayC_222] at c45
        first | refine A_iincN 73 dX6_earliestOf_70 rfl rfl (by decide) (by first | exact (ast_s (ast_s (ast_s (ast_s (ast_s (ast_1 rfl)))))) | exact (ast_s (ast_s (ast_s (ast_s (ast_s ast_k)))))) ?_ | refine A_iinc 73 (1) dX6_earliestOf_70 rfl rfl (by decide) (by decide) (by first | exact (ast_s (ast_s (ast_s (ast_s (ast_s (ast_1 rfl)))))) | exact (ast_s (ast_s (ast_s (ast_s (ast_s ast_k)))))) ?_
        refine A_goto 11 dX6_earliestOf_73 (by decide) ?_
        exact A_weak (ih n0 (Nat.lt_succ_self n0) (i + 1) _ _ h_1 _ (by omega) ((foldN_s (eaF x ls) ((-9, -9)) i).trans ((congrArg ((eaF x ls) i) ee).trans (by first | with_reducible rfl | (simp only [c45, if_true, if_false, ite_true, ite_false, and_true, true_and, and_false, false_and, and_self, or_true, true_or, or_false, false_or, or_self, not_true_eq_false, not_false_eq_true, decide_true, decide_false, Bool.and_true, Bool.true_and, Bool.and_false, Bool.false_and, Bool.and_self, Bool.or_true, Bool.true_or, Bool.or_false, Bool.false_or, Bool.not_true, Bool.not_false, cond_true, cond_false, bI_t, bI_f, Bool.false_eq_true, Bool.true_eq_false, dayC_1, dayC_21, dayC_221, dayC_222, eaF, dayC]; done) | (simp only [eq_true c45, if_true, if_false, ite_true, ite_false, and_true, true_and, and_false, false_and, and_self, or_true, true_or, or_false, false_or, or_self, not_true_eq_false, not_false_eq_true, decide_true, decide_false, Bool.and_true, Bool.true_and, Bool.and_false, Bool.false_and, Bool.and_self, Bool.or_true, Bool.true_or, Bool.or_false, Bool.false_or, Bool.not_true, Bool.not_false, cond_true, cond_false, bI_t, bI_f, Bool.false_eq_true, Bool.true_eq_false, dayC_1, dayC_21, dayC_221, dayC_222, eaF, dayC]; done) | (simp [*, eaF, dayC]; done) | with_reducible_and_instances rfl))) O19 O20 O1 hf) (sub_s (sub_s (sub_s (sub_s (sub_s (sub_s (sub_s (sub_n sub_nil))))))))
      · skip
        try simp only [bI_0, bI_n0, Classical.not_not, Bool.not_eq_false, Bool.true_and, Bool.and_true, decide_eq_true_eq, decide_eq_false_iff_not, dayC_1, dayC_21, dayC_221, dayC_222] at c45
        refine A_iload 50 dX6_earliestOf_48 rfl rfl ?_
        refine A_bipush 52 (-9) dX6_earliestOf_50 rfl (by decide) ?_
        refine A_icmp_eq 62 55 dX6_earliestOf_52 (by decide) rfl (fun c52 => ?_) (fun c52 => ?_)
        · skip
          try simp only [bI_0, bI_n0, Classical.not_not, Bool.not_eq_false, Bool.true_and, Bool.and_true, decide_eq_true_eq, decide_eq_false_iff_not, dayC_1, dayC_21, dayC_221, dayC_222] at c52
          refine A_iload 64 dX6_earliestOf_62 rfl rfl ?_
          refine A_istore 66 dX6_earliestOf_64 rfl (by decide) (by first | exact (ast_s (ast_s (ast_s (ast_1 rfl)))) | exact (ast_s (ast_s (ast_s ast_k)))) ?_
          refine A_iload 68 dX6_earliestOf_66 rfl rfl ?_
          refine A_istore 70 dX6_earliestOf_68 rfl (by decide) (by first | exact (ast_s (ast_s (ast_s (ast_s (ast_1 rfl))))) | exact (ast_s (ast_s (ast_s (ast_s ast_k))))) ?_
          first | refine A_iincN 73 dX6_earliestOf_70 rfl rfl (by decide) (by first | exact (ast_s (ast_s (ast_s (ast_s (ast_s (ast_1 rfl)))))) | exact (ast_s (ast_s (ast_s (ast_s (ast_s ast_k)))))) ?_ | refine A_iinc 73 (1) dX6_earliestOf_70 rfl rfl (by decide) (by decide) (by first | exact (ast_s (ast_s (ast_s (ast_s (ast_s (ast_1 rfl)))))) | exact (ast_s (ast_s (ast_s (ast_s (ast_s ast_k)))))) ?_
          refine A_goto 11 dX6_earliestOf_73 (by decide) ?_
          exact A_weak (ih n0 (Nat.lt_succ_self n0) (i + 1) _ _ h_1 _ (by omega) ((foldN_s (eaF x ls) ((-9, -9)) i).trans ((congrArg ((eaF x ls) i) ee).trans (by first | with_reducible rfl | (simp only [c45, c52, if_true, if_false, ite_true, ite_false, and_true, true_and, and_false, false_and, and_self, or_true, true_or, or_false, false_or, or_self, not_true_eq_false, not_false_eq_true, decide_true, decide_false, Bool.and_true, Bool.true_and, Bool.and_false, Bool.false_and, Bool.and_self, Bool.or_true, Bool.true_or, Bool.or_false, Bool.false_or, Bool.not_true, Bool.not_false, cond_true, cond_false, bI_t, bI_f, Bool.false_eq_true, Bool.true_eq_false, dayC_1, dayC_21, dayC_221, dayC_222, eaF, dayC]; done) | (simp only [c45, eq_true c52, if_true, if_false, ite_true, ite_false, and_true, true_and, and_false, false_and, and_self, or_true, true_or, or_false, false_or, or_self, not_true_eq_false, not_false_eq_true, decide_true, decide_false, Bool.and_true, Bool.true_and, Bool.and_false, Bool.false_and, Bool.and_self, Bool.or_true, Bool.true_or, Bool.or_false, Bool.false_or, Bool.not_true, Bool.not_false, cond_true, cond_false, bI_t, bI_f, Bool.false_eq_true, Bool.true_eq_false, dayC_1, dayC_21, dayC_221, dayC_222, eaF, dayC]; done) | (simp [*, eaF, dayC]; done) | with_reducible_and_instances rfl))) O19 O20 O1 hf) (sub_s (sub_s (sub_s (sub_s (sub_s (sub_s (sub_s (sub_n sub_nil))))))))
        · skip
          try simp only [bI_0, bI_n0, Classical.not_not, Bool.not_eq_false, Bool.true_and, Bool.and_true, decide_eq_true_eq, decide_eq_false_iff_not, dayC_1, dayC_21, dayC_221, dayC_222] at c52
          refine A_iload 57 dX6_earliestOf_55 rfl rfl ?_
          refine A_iload 59 dX6_earliestOf_57 rfl rfl ?_
          refine A_icmp_ge 70 62 dX6_earliestOf_59 (by decide) rfl (fun c59 => ?_) (fun c59 => ?_)
          · skip
            try simp only [bI_0, bI_n0, Classical.not_not, Bool.not_eq_false, Bool.true_and, Bool.and_true, decide_eq_true_eq, decide_eq_false_iff_not, dayC_1, dayC_21, dayC_221, dayC_222] at c59
            have n59 := c59
            replace c59 := Int32.not_lt.mpr c59
            first | refine A_iincN 73 dX6_earliestOf_70 rfl rfl (by decide) (by first | exact (ast_s (ast_s (ast_s (ast_s (ast_s (ast_1 rfl)))))) | exact (ast_s (ast_s (ast_s (ast_s (ast_s ast_k)))))) ?_ | refine A_iinc 73 (1) dX6_earliestOf_70 rfl rfl (by decide) (by decide) (by first | exact (ast_s (ast_s (ast_s (ast_s (ast_s (ast_1 rfl)))))) | exact (ast_s (ast_s (ast_s (ast_s (ast_s ast_k)))))) ?_
            refine A_goto 11 dX6_earliestOf_73 (by decide) ?_
            exact A_weak (ih n0 (Nat.lt_succ_self n0) (i + 1) _ _ h_1 _ (by omega) ((foldN_s (eaF x ls) ((-9, -9)) i).trans ((congrArg ((eaF x ls) i) ee).trans (by first | with_reducible rfl | (simp only [c45, c52, c59, n59, if_true, if_false, ite_true, ite_false, and_true, true_and, and_false, false_and, and_self, or_true, true_or, or_false, false_or, or_self, not_true_eq_false, not_false_eq_true, decide_true, decide_false, Bool.and_true, Bool.true_and, Bool.and_false, Bool.false_and, Bool.and_self, Bool.or_true, Bool.true_or, Bool.or_false, Bool.false_or, Bool.not_true, Bool.not_false, cond_true, cond_false, bI_t, bI_f, Bool.false_eq_true, Bool.true_eq_false, dayC_1, dayC_21, dayC_221, dayC_222, eaF, dayC]; done) | (simp [*, eaF, dayC]; done) | with_reducible_and_instances rfl))) O19 O20 O1 hf) (sub_s (sub_s (sub_s (sub_s (sub_s (sub_s (sub_s (sub_n sub_nil))))))))
          · skip
            try simp only [bI_0, bI_n0, Classical.not_not, Bool.not_eq_false, Bool.true_and, Bool.and_true, decide_eq_true_eq, decide_eq_false_iff_not, dayC_1, dayC_21, dayC_221, dayC_222] at c59
            have n59 := c59
            replace c59 := Int32.not_le.mp c59
            refine A_iload 64 dX6_earliestOf_62 rfl rfl ?_
            refine A_istore 66 dX6_earliestOf_64 rfl (by decide) (by first | exact (ast_s (ast_s (ast_s (ast_1 rfl)))) | exact (ast_s (ast_s (ast_s ast_k)))) ?_
            refine A_iload 68 dX6_earliestOf_66 rfl rfl ?_
            refine A_istore 70 dX6_earliestOf_68 rfl (by decide) (by first | exact (ast_s (ast_s (ast_s (ast_s (ast_1 rfl))))) | exact (ast_s (ast_s (ast_s (ast_s ast_k))))) ?_
            first | refine A_iincN 73 dX6_earliestOf_70 rfl rfl (by decide) (by first | exact (ast_s (ast_s (ast_s (ast_s (ast_s (ast_1 rfl)))))) | exact (ast_s (ast_s (ast_s (ast_s (ast_s ast_k)))))) ?_ | refine A_iinc 73 (1) dX6_earliestOf_70 rfl rfl (by decide) (by decide) (by first | exact (ast_s (ast_s (ast_s (ast_s (ast_s (ast_1 rfl)))))) | exact (ast_s (ast_s (ast_s (ast_s (ast_s ast_k)))))) ?_
            refine A_goto 11 dX6_earliestOf_73 (by decide) ?_
            exact A_weak (ih n0 (Nat.lt_succ_self n0) (i + 1) _ _ h_1 _ (by omega) ((foldN_s (eaF x ls) ((-9, -9)) i).trans ((congrArg ((eaF x ls) i) ee).trans (by first | with_reducible rfl | (simp only [c45, c52, c59, n59, if_true, if_false, ite_true, ite_false, and_true, true_and, and_false, false_and, and_self, or_true, true_or, or_false, false_or, or_self, not_true_eq_false, not_false_eq_true, decide_true, decide_false, Bool.and_true, Bool.true_and, Bool.and_false, Bool.false_and, Bool.and_self, Bool.or_true, Bool.true_or, Bool.or_false, Bool.false_or, Bool.not_true, Bool.not_false, cond_true, cond_false, bI_t, bI_f, Bool.false_eq_true, Bool.true_eq_false, dayC_1, dayC_21, dayC_221, dayC_222, eaF, dayC]; done) | (simp [*, eaF, dayC]; done) | with_reducible_and_instances rfl))) O19 O20 O1 hf) (sub_s (sub_s (sub_s (sub_s (sub_s (sub_s (sub_s (sub_n sub_nil))))))))
  exact A_weak (L11 (256) (0) (_) (_) h (_) (by omega) (rfl) O19 O20 O1 hf) (sub_s (sub_s (sub_s (sub_s (sub_s (sub_s (sub_s (sub_n sub_nil))))))))
