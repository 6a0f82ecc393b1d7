/-! the reference's ways of asking, third lot -/
theorem DT_0 (x : PW) : foldN (fun p t => t + bitC (dDone x 0 (x.2.1 p))) 0 x.2.2.2.1 = DT x 0 := by
  unfold DT
  refine foldN_congr _ _ 0 _ (fun i _ u => ?_)
  unfold dtF DN
  rw [show x.2.1 i &&& ((0 : Int32) ^^^ (-1)) = x.2.1 i by simp]
theorem tb8 (p : Int32) : p &&& (tbI (nI 8) ^^^ (-1)) = p := by
  rw [show tbI (nI 8) = 0 from by decide]
  simp
def twoQ (x : PW) (a b : Int32) : Bool := inN a x.2.2.2.1 && (inN b x.2.2.2.1 && decide (¬ a = b))
theorem twoQ_t {x : PW} {a b : Int32} (h : twoQ x a b = true) : isP x a = true ∧ isP x b = true ∧ ¬ a = b := by
  unfold twoQ at h
  rw [Bool.and_eq_true, Bool.and_eq_true] at h
  exact ⟨h.1, h.2.1, of_decide_eq_true h.2.2⟩
theorem twoQ_f {x : PW} {a b : Int32} (h : twoQ x a b = false) : ¬ (isP x a = true ∧ isP x b = true ∧ ¬ a = b) := by
  rintro ⟨h1, h2, h3⟩
  unfold isP at h1 h2
  unfold twoQ at h
  rw [h1, h2, decide_eq_true h3] at h
  cases h
theorem wTrade_q (x : PW) (a b v : Int32) : wTrade x a b v = if twoQ x a b = true then w01 v else -1 := by
  unfold wTrade
  cases h : twoQ x a b with
  | true => rw [if_pos (twoQ_t h), if_pos rfl]
  | false => rw [if_neg (twoQ_f h), if_neg (by decide)]
def trJ (x : PW) (a b : Int32) (i j : Nat) (t : Int32 × Int32) : Int32 × Int32 := if btI a (nI i) = true ∧ btI b (nI j) = true ∧ t.1 < trN x a b i j then (trN x a b i j, 10 * nI i + nI j) else t
theorem trO_J (x : PW) (a b : Int32) (i : Nat) (t : Int32 × Int32) : foldN (trJ x a b i) t 8 = trO x a b i t := by
  unfold trO
  by_cases h : btI a (nI i) = true
  · rw [if_pos h]
    refine foldN_congr _ _ t 8 (fun j _ u => ?_)
    unfold trJ trI
    by_cases h2 : btI b (nI j) = true ∧ u.1 < trN x a b i j
    · rw [if_pos ⟨h, h2.1, h2.2⟩, if_pos h2]
    · rw [if_neg (fun z => h2 z.2), if_neg h2]
  · rw [if_neg h]
    exact foldN_id (fun j _ => if_neg (fun z => h z.1))
theorem MS_le {x : PW} (hx : LOK x) (p tk : Int32) : ∃ m, m ≤ 10 ∧ MS x p tk = nI m := by
  unfold MS
  refine foldN_inv (msF x p tk) _ (fun _ u => ∃ m, m ≤ 10 ∧ u = nI m) ?_ 8 (fun i u _ hu => ?_)
  · obtain ⟨e, h⟩ := R10_pop (dDone_R hx 0 (p &&& (tbI tk ^^^ (-1))))
    exact ⟨_, h, e⟩
  · unfold msF
    split
    · exact hu
    · split
      · obtain ⟨e, h⟩ := R10_pop (dDone_R hx 0 ((p &&& (tbI tk ^^^ (-1))) ||| tbI (nI i)))
        exact ⟨_, h, e⟩
      · exact hu
theorem gd_eq {x : PW} (hx : LOK x) (p : Int32) : foldN (gdF x p) (99, -9) 9 = foldN (gdF x p) (11, 8) 9 := by
  have step : ∀ i, (foldN (gdF x p) (99, -9) i = (99, -9) ∧ foldN (gdF x p) (11, 8) i = (11, 8)) ∨ foldN (gdF x p) (99, -9) i = foldN (gdF x p) (11, 8) i := by
    intro i
    induction i with
    | zero => exact Or.inl ⟨rfl, rfl⟩
    | succ i ih =>
      rw [foldN_s, foldN_s]
      rcases ih with ⟨a, b⟩ | a
      · rw [a, b]
        obtain ⟨m, hm, e⟩ := MS_le hx p (nI i)
        have c1 : MS x p (nI i) < 99 := by rw [e]; exact (nlt_iff (b := 99) (by omega) (by decide)).mpr (by omega)
        have c2 : MS x p (nI i) < 11 := by rw [e]; exact (nlt_iff (b := 11) (by omega) (by decide)).mpr (by omega)
        unfold gdF
        by_cases z : i < 8 ∧ ¬ btI p (nI i) = true
        · left
          rw [if_pos (Or.inl z), if_pos (Or.inl z)]
          exact ⟨rfl, rfl⟩
        · right
          rw [if_neg (fun q => q.elim z (fun r => r c1)), if_neg (fun q => q.elim z (fun r => r c2))]
      · right; rw [a]
  rcases step 8 with ⟨a, b⟩ | a
  · rw [foldN_s, foldN_s (gdF x p) (11, 8), a, b]
    obtain ⟨m, hm, e⟩ := MS_le hx p (nI 8)
    have c1 : MS x p (nI 8) < 99 := by rw [e]; exact (nlt_iff (b := 99) (by omega) (by decide)).mpr (by omega)
    have c2 : MS x p (nI 8) < 11 := by rw [e]; exact (nlt_iff (b := 11) (by omega) (by decide)).mpr (by omega)
    unfold gdF
    rw [if_neg (fun q => q.elim (fun r => absurd r.1 (by decide)) (fun r => r c1)), if_neg (fun q => q.elim (fun r => absurd r.1 (by decide)) (fun r => r c2))]
  · rw [foldN_s, foldN_s (gdF x p) (11, 8), a]
set_option maxHeartbeats 4000000 in
set_option maxRecDepth 100000 in
theorem S_X10_count (X : En) (l : Launch) {h : Hp} {x : PW} {c : RC} {z : RZ} (O28 : h 28 = some (rB x (-1) c z)) (hW : WOK x) {v : Int32} : Ct X l mX10_count [aR 28 0, aI v] h (QI (fun vr h2 => (aCount x c.2.2.1 c.2.2.2.2.2.2.2.2 c.2.2.2.2.2.2.1 c.1 v) = vr ∧ ∃ (z1 : RZ), h2 (28) = some (rB x (-1) c z1) ∧ ∀ i, i ≠ 28 → h2 i = h i)) := by
  have hx := hW.1
  have hp := hW.2.1
  have h10 := hx.1
  have hf : ∀ i, i ≠ 28 → h i = h i := fun _ _ => rfl
  refine Ct.intro [some (aR 28 0), some (aI v), none, none] (by decide +kernel) rfl (Nat.le_of_ble_eq_true rfl) ?_
  refine A_aload_n 1 dX10_count_0 rfl rfl rfl ?_
  refine A_iconst 2 (0) dX10_count_1 rfl (by decide) ?_
  refine P_X10_9 5 dX10_count_2 rfl fw_X10_78 O28 (fun h_1 nh_1 eh_1 => ?_)
  replace O28 := nh_1
  replace hf : ∀ i, i ≠ 28 → h_1 i = h i := fun i g0 => (eh_1 i g0).trans (hf i g0)
  try dsimp only at O28
  refine A_iconst 6 (0) dX10_count_5 rfl (by decide) ?_
  refine A_istore_n 7 dX10_count_6 rfl rfl (by decide) (by first | exact (ast_s (ast_1 rfl)) | exact (ast_s ast_k)) ?_
  refine A_iload_n 8 dX10_count_7 rfl rfl rfl ?_
  refine A_case (0) (fun e8_0 => ?_) (fun e8_0 => ?_)
  · skip
    refine A_switch 60 dX10_count_8 (by rw [e8_0]; decide) (by rw [e8_0]; rfl) (by decide) ?_
    refine A_aload_n 61 dX10_count_60 rfl rfl rfl ?_
    refine A_getfield 64 dX10_count_61 rfl f_X10_88 O28 rfl ?_
    try dsimp only
    refine A_iret dX10_count_64 rfl ⟨_, rfl, (by first | (simp only [e8_0, if_true, if_false, ite_true, ite_false, and_true, true_and, and_false, false_and, and_self, or_true, true_or, or_false, false_or, or_self, not_true_eq_false, not_false_eq_true, decide_true, decide_false, Bool.and_true, Bool.true_and, Bool.and_false, Bool.false_and, Bool.and_self, Bool.or_true, Bool.true_or, Bool.or_false, Bool.false_or, Bool.not_true, Bool.not_false, cond_true, cond_false, bI_t, bI_f, Bool.false_eq_true, Bool.true_eq_false, dayC_1, dayC_21, dayC_221, dayC_222, aCount, thF]; done) | (simp only [eq_true e8_0, if_true, if_false, ite_true, ite_false, and_true, true_and, and_false, false_and, and_self, or_true, true_or, or_false, false_or, or_self, not_true_eq_false, not_false_eq_true, decide_true, decide_false, Bool.and_true, Bool.true_and, Bool.and_false, Bool.false_and, Bool.and_self, Bool.or_true, Bool.true_or, Bool.or_false, Bool.false_or, Bool.not_true, Bool.not_false, cond_true, cond_false, bI_t, bI_f, Bool.false_eq_true, Bool.true_eq_false, dayC_1, dayC_21, dayC_221, dayC_222, aCount, thF]; done) | (unfold aCount; rw [e8_4]; exact ee) | (unfold aCount thF; rw [if_neg e8_0, if_neg e8_1, if_neg e8_2, if_neg e8_3, if_pos e8_4]; exact ee) | (unfold aCount; rw [if_neg e8_0, if_neg e8_1, if_neg e8_2, if_neg e8_3, if_neg e8_4, if_pos e8_5]; exact (DT_0 x).symm) | (unfold aCount; rw [if_neg e8_0, if_neg e8_1, if_neg e8_2, if_neg e8_3, if_neg e8_4, if_neg e8_5, if_neg e8_6, if_neg e8_7, if_neg e8_8, if_pos c144, sub_10 hk11, nI_clamp (by omega)])), _, O28, hf⟩
  refine A_case (1) (fun e8_1 => ?_) (fun e8_1 => ?_)
  · skip
    refine A_switch 65 dX10_count_8 (by rw [e8_1]; decide) (by rw [e8_1]; rfl) (by decide) ?_
    refine A_aload_n 66 dX10_count_65 rfl rfl rfl ?_
    refine A_getfield 69 dX10_count_66 rfl f_X10_81 O28 rfl ?_
    try dsimp only
    refine A_iret dX10_count_69 rfl ⟨_, rfl, (by first | (simp only [e8_0, e8_1, if_true, if_false, ite_true, ite_false, and_true, true_and, and_false, false_and, and_self, or_true, true_or, or_false, false_or, or_self, not_true_eq_false, not_false_eq_true, decide_true, decide_false, Bool.and_true, Bool.true_and, Bool.and_false, Bool.false_and, Bool.and_self, Bool.or_true, Bool.true_or, Bool.or_false, Bool.false_or, Bool.not_true, Bool.not_false, cond_true, cond_false, bI_t, bI_f, Bool.false_eq_true, Bool.true_eq_false, dayC_1, dayC_21, dayC_221, dayC_222, aCount, thF]; done) | (simp only [e8_0, eq_true e8_1, if_true, if_false, ite_true, ite_false, and_true, true_and, and_false, false_and, and_self, or_true, true_or, or_false, false_or, or_self, not_true_eq_false, not_false_eq_true, decide_true, decide_false, Bool.and_true, Bool.true_and, Bool.and_false, Bool.false_and, Bool.and_self, Bool.or_true, Bool.true_or, Bool.or_false, Bool.false_or, Bool.not_true, Bool.not_false, cond_true, cond_false, bI_t, bI_f, Bool.false_eq_true, Bool.true_eq_false, dayC_1, dayC_21, dayC_221, dayC_222, aCount, thF]; done) | (unfold aCount; rw [e8_4]; exact ee) | (unfold aCount thF; rw [if_neg e8_0, if_neg e8_1, if_neg e8_2, if_neg e8_3, if_pos e8_4]; exact ee) | (unfold aCount; rw [if_neg e8_0, if_neg e8_1, if_neg e8_2, if_neg e8_3, if_neg e8_4, if_pos e8_5]; exact (DT_0 x).symm) | (unfold aCount; rw [if_neg e8_0, if_neg e8_1, if_neg e8_2, if_neg e8_3, if_neg e8_4, if_neg e8_5, if_neg e8_6, if_neg e8_7, if_neg e8_8, if_pos c144, sub_10 hk11, nI_clamp (by omega)])), _, O28, hf⟩
  refine A_case (2) (fun e8_2 => ?_) (fun e8_2 => ?_)
  · skip
    refine A_switch 70 dX10_count_8 (by rw [e8_2]; decide) (by rw [e8_2]; rfl) (by decide) ?_
    refine A_aload_n 71 dX10_count_70 rfl rfl rfl ?_
    refine A_getfield 74 dX10_count_71 rfl f_X10_118 O28 rfl ?_
    try dsimp only
    refine A_iret dX10_count_74 rfl ⟨_, rfl, (by first | (simp only [e8_0, e8_1, e8_2, if_true, if_false, ite_true, ite_false, and_true, true_and, and_false, false_and, and_self, or_true, true_or, or_false, false_or, or_self, not_true_eq_false, not_false_eq_true, decide_true, decide_false, Bool.and_true, Bool.true_and, Bool.and_false, Bool.false_and, Bool.and_self, Bool.or_true, Bool.true_or, Bool.or_false, Bool.false_or, Bool.not_true, Bool.not_false, cond_true, cond_false, bI_t, bI_f, Bool.false_eq_true, Bool.true_eq_false, dayC_1, dayC_21, dayC_221, dayC_222, aCount, thF]; done) | (simp only [e8_0, e8_1, eq_true e8_2, if_true, if_false, ite_true, ite_false, and_true, true_and, and_false, false_and, and_self, or_true, true_or, or_false, false_or, or_self, not_true_eq_false, not_false_eq_true, decide_true, decide_false, Bool.and_true, Bool.true_and, Bool.and_false, Bool.false_and, Bool.and_self, Bool.or_true, Bool.true_or, Bool.or_false, Bool.false_or, Bool.not_true, Bool.not_false, cond_true, cond_false, bI_t, bI_f, Bool.false_eq_true, Bool.true_eq_false, dayC_1, dayC_21, dayC_221, dayC_222, aCount, thF]; done) | (unfold aCount; rw [e8_4]; exact ee) | (unfold aCount thF; rw [if_neg e8_0, if_neg e8_1, if_neg e8_2, if_neg e8_3, if_pos e8_4]; exact ee) | (unfold aCount; rw [if_neg e8_0, if_neg e8_1, if_neg e8_2, if_neg e8_3, if_neg e8_4, if_pos e8_5]; exact (DT_0 x).symm) | (unfold aCount; rw [if_neg e8_0, if_neg e8_1, if_neg e8_2, if_neg e8_3, if_neg e8_4, if_neg e8_5, if_neg e8_6, if_neg e8_7, if_neg e8_8, if_pos c144, sub_10 hk11, nI_clamp (by omega)])), _, O28, hf⟩
  refine A_case (3) (fun e8_3 => ?_) (fun e8_3 => ?_)
  · skip
    refine A_switch 75 dX10_count_8 (by rw [e8_3]; decide) (by rw [e8_3]; rfl) (by decide) ?_
    refine A_aload_n 76 dX10_count_75 rfl rfl rfl ?_
    refine A_getfield 79 dX10_count_76 rfl f_X10_97 O28 rfl ?_
    try dsimp only
    refine A_callSI 82 (S_X10_onesOf_r X l (by first | assumption | exact R10.nI (by omega) | exact dDone_R (by assumption) _ _ | exact R8.r10 (by assumption) | exact (WOK_pk (by assumption) (by omega)).r10 | exact (WOK_tr (by assumption)).r10 | exact R10_and _ (dDone_R (by assumption) _ _))) dX10_count_79 rfl kX10_onesOf lk_X10_112 rfl (by decide) rfl (Nat.le_of_ble_eq_true rfl) (fun v_2 h_2 qh_2 => ?_)
    obtain ⟨rfl, rfl⟩ := qh_2
    refine A_iret dX10_count_82 rfl ⟨_, rfl, (by first | (simp only [e8_0, e8_1, e8_2, e8_3, if_true, if_false, ite_true, ite_false, and_true, true_and, and_false, false_and, and_self, or_true, true_or, or_false, false_or, or_self, not_true_eq_false, not_false_eq_true, decide_true, decide_false, Bool.and_true, Bool.true_and, Bool.and_false, Bool.false_and, Bool.and_self, Bool.or_true, Bool.true_or, Bool.or_false, Bool.false_or, Bool.not_true, Bool.not_false, cond_true, cond_false, bI_t, bI_f, Bool.false_eq_true, Bool.true_eq_false, dayC_1, dayC_21, dayC_221, dayC_222, aCount, thF]; done) | (simp only [e8_0, e8_1, e8_2, eq_true e8_3, if_true, if_false, ite_true, ite_false, and_true, true_and, and_false, false_and, and_self, or_true, true_or, or_false, false_or, or_self, not_true_eq_false, not_false_eq_true, decide_true, decide_false, Bool.and_true, Bool.true_and, Bool.and_false, Bool.false_and, Bool.and_self, Bool.or_true, Bool.true_or, Bool.or_false, Bool.false_or, Bool.not_true, Bool.not_false, cond_true, cond_false, bI_t, bI_f, Bool.false_eq_true, Bool.true_eq_false, dayC_1, dayC_21, dayC_221, dayC_222, aCount, thF]; done) | (unfold aCount; rw [e8_4]; exact ee) | (unfold aCount thF; rw [if_neg e8_0, if_neg e8_1, if_neg e8_2, if_neg e8_3, if_pos e8_4]; exact ee) | (unfold aCount; rw [if_neg e8_0, if_neg e8_1, if_neg e8_2, if_neg e8_3, if_neg e8_4, if_pos e8_5]; exact (DT_0 x).symm) | (unfold aCount; rw [if_neg e8_0, if_neg e8_1, if_neg e8_2, if_neg e8_3, if_neg e8_4, if_neg e8_5, if_neg e8_6, if_neg e8_7, if_neg e8_8, if_pos c144, sub_10 hk11, nI_clamp (by omega)])), _, O28, hf⟩
  refine A_case (4) (fun e8_4 => ?_) (fun e8_4 => ?_)
  · skip
    refine A_switch 83 dX10_count_8 (by rw [e8_4]; decide) (by rw [e8_4]; rfl) (by decide) ?_
    refine A_iconst 84 (0) dX10_count_83 rfl (by decide) ?_
    refine A_istore_n 85 dX10_count_84 rfl rfl (by decide) (by first | exact (ast_s (ast_s (ast_1 rfl))) | exact (ast_s (ast_s ast_k))) ?_
    have L85 : ∀ (nq i : Nat) (u : Int32) , (nq + i = x.2.2.2.1) → (foldN (fun p t => t + bitC (x.2.1 p)) (0) i = (u)) → Av X l mX10_count 85 [some (aR 28 0), some (aI (v)), some (aI (u)), some (aI (nI (i)))] [] h_1 (QI (fun vr h2 => (aCount x c.2.2.1 c.2.2.2.2.2.2.2.2 c.2.2.2.2.2.2.1 c.1 v) = vr ∧ ∃ (z1 : RZ), h2 (28) = some (rB x (-1) c z1) ∧ ∀ i, i ≠ 28 → h2 i = h i)) := by
      intro nq
      induction nq using Nat.strongRecOn with
      | _ nq ih =>
      intro i u en ee
      refine A_iload_n 86 dX10_count_85 rfl rfl rfl ?_
      refine A_aload_n 87 dX10_count_86 rfl rfl rfl ?_
      refine A_getfield 90 dX10_count_87 rfl f_X10_81 O28 rfl ?_
      try dsimp only
      refine A_icmp_ge 111 93 dX10_count_90 (by decide) rfl (fun c90 => ?_) (fun c90 => ?_)
      · skip
        obtain rfl := (up_ge_T (N := x.2.2.2.1) c90 rfl (by omega) (by omega)).symm
        refine A_iload_n 112 dX10_count_111 rfl rfl rfl ?_
        refine A_iret dX10_count_112 rfl ⟨_, rfl, (by first | (simp only [e8_0, e8_1, e8_2, e8_3, e8_4, if_true, if_false, ite_true, ite_false, and_true, true_and, and_false, false_and, and_self, or_true, true_or, or_false, false_or, or_self, not_true_eq_false, not_false_eq_true, decide_true, decide_false, Bool.and_true, Bool.true_and, Bool.and_false, Bool.false_and, Bool.and_self, Bool.or_true, Bool.true_or, Bool.or_false, Bool.false_or, Bool.not_true, Bool.not_false, cond_true, cond_false, bI_t, bI_f, Bool.false_eq_true, Bool.true_eq_false, dayC_1, dayC_21, dayC_221, dayC_222, aCount, thF]; done) | (simp only [e8_0, e8_1, e8_2, e8_3, eq_true e8_4, if_true, if_false, ite_true, ite_false, and_true, true_and, and_false, false_and, and_self, or_true, true_or, or_false, false_or, or_self, not_true_eq_false, not_false_eq_true, decide_true, decide_false, Bool.and_true, Bool.true_and, Bool.and_false, Bool.false_and, Bool.and_self, Bool.or_true, Bool.true_or, Bool.or_false, Bool.false_or, Bool.not_true, Bool.not_false, cond_true, cond_false, bI_t, bI_f, Bool.false_eq_true, Bool.true_eq_false, dayC_1, dayC_21, dayC_221, dayC_222, aCount, thF]; done) | (unfold aCount; rw [e8_4]; exact ee) | (unfold aCount thF; rw [if_neg e8_0, if_neg e8_1, if_neg e8_2, if_neg e8_3, if_pos e8_4]; exact ee) | (unfold aCount; rw [if_neg e8_0, if_neg e8_1, if_neg e8_2, if_neg e8_3, if_neg e8_4, if_pos e8_5]; exact (DT_0 x).symm) | (unfold aCount; rw [if_neg e8_0, if_neg e8_1, if_neg e8_2, if_neg e8_3, if_neg e8_4, if_neg e8_5, if_neg e8_6, if_neg e8_7, if_neg e8_8, if_pos c144, sub_10 hk11, nI_clamp (by omega)])), _, O28, hf⟩
      · skip
        have hi := up_ge_F (N := x.2.2.2.1) c90 rfl (by omega) (by omega)
        obtain ⟨n0, rfl⟩ : ∃ q, nq = q + 1 := ⟨nq - 1, by omega⟩
        refine A_iload_n 94 dX10_count_93 rfl rfl rfl ?_
        refine A_aload_n 95 dX10_count_94 rfl rfl rfl ?_
        refine A_getfield 98 dX10_count_95 rfl f_X10_22 O28 rfl ?_
        refine A_iload_n 99 dX10_count_98 rfl rfl rfl ?_
        refine A_iaload 100 dX10_count_99 rfl O28 rfl (by first | assumption | exact ix_nI (by omega) (by decide) | exact ix_lit _ rfl (by omega) (by decide) | exact ix_lit _ rfl (by decide) (by decide)) ?_
        try dsimp only
        refine A_callSI 103 (S_X10_onesOf_r X l (by first | assumption | exact R10.nI (by omega) | exact dDone_R (by assumption) _ _ | exact R8.r10 (by assumption) | exact (WOK_pk (by assumption) (by omega)).r10 | exact (WOK_tr (by assumption)).r10 | exact R10_and _ (dDone_R (by assumption) _ _))) dX10_count_100 rfl kX10_onesOf lk_X10_112 rfl (by decide) rfl (Nat.le_of_ble_eq_true rfl) (fun v_3 h_3 qh_3 => ?_)
        obtain ⟨rfl, rfl⟩ := qh_3
        refine A_iadd 104 dX10_count_103 rfl ?_
        refine A_istore_n 105 dX10_count_104 rfl rfl (by decide) (by first | exact (ast_s (ast_1 rfl)) | exact (ast_s ast_k)) ?_
        first | refine A_iincN 108 dX10_count_105 rfl rfl (by decide) (by first | exact (ast_s (ast_s (ast_1 rfl))) | exact (ast_s (ast_s ast_k))) ?_ | refine A_iinc 108 (1) dX10_count_105 rfl rfl (by decide) (by decide) (by first | exact (ast_s (ast_s (ast_1 rfl))) | exact (ast_s (ast_s ast_k))) ?_
        refine A_goto 85 dX10_count_108 (by decide) ?_
        exact ih n0 (Nat.lt_succ_self n0) (i + 1) _  (by omega) ((foldN_s (fun p t => t + bitC (x.2.1 p)) (0) i).trans ((congrArg ((fun p t => t + bitC (x.2.1 p)) i) ee).trans (by first | with_reducible rfl | (simp only [e8_0, e8_1, e8_2, e8_3, e8_4, if_true, if_false, ite_true, ite_false, and_true, true_and, and_false, false_and, and_self, or_true, true_or, or_false, false_or, or_self, not_true_eq_false, not_false_eq_true, decide_true, decide_false, Bool.and_true, Bool.true_and, Bool.and_false, Bool.false_and, Bool.and_self, Bool.or_true, Bool.true_or, Bool.or_false, Bool.false_or, Bool.not_true, Bool.not_false, cond_true, cond_false, bI_t, bI_f, Bool.false_eq_true, Bool.true_eq_false, dayC_1, dayC_21, dayC_221, dayC_222]; done) | (simp only [e8_0, e8_1, e8_2, e8_3, eq_true e8_4, if_true, if_false, ite_true, ite_false, and_true, true_and, and_false, false_and, and_self, or_true, true_or, or_false, false_or, or_self, not_true_eq_false, not_false_eq_true, decide_true, decide_false, Bool.and_true, Bool.true_and, Bool.and_false, Bool.false_and, Bool.and_self, Bool.or_true, Bool.true_or, Bool.or_false, Bool.false_or, Bool.not_true, Bool.not_false, cond_true, cond_false, bI_t, bI_f, Bool.false_eq_true, Bool.true_eq_false, dayC_1, dayC_21, dayC_221, dayC_222]; done) | (simp [*]; done) | with_reducible_and_instances rfl))) 
    exact L85 (x.2.2.2.1) (0) (_)  (by omega) (rfl) 
  refine A_case (5) (fun e8_5 => ?_) (fun e8_5 => ?_)
  · skip
    refine A_switch 113 dX10_count_8 (by rw [e8_5]; decide) (by rw [e8_5]; rfl) (by decide) ?_
    refine A_aload_n 114 dX10_count_113 rfl rfl rfl ?_
    refine A_callVI 117 (S_X10_allDone X l (by first | assumption | decide | omega | exact Ne.symm (by assumption)) (by first | assumption | decide | omega | exact Ne.symm (by assumption)) (by first | assumption | decide | omega | exact Ne.symm (by assumption)) (by first | assumption | decide | omega | exact Ne.symm (by assumption))) dX10_count_114 rfl kX10_allDone lk_X10_286 rfl O28 (by decide) rfl (Nat.le_of_ble_eq_true rfl) (fun v_4 h_4 qh_4 => ?_)
    obtain ⟨rfl, d_4, n0h_4, eh_4⟩ := qh_4
    replace O28 := n0h_4
    replace hf : ∀ i, i ≠ 28 → h_4 i = h i := fun i g0 => (eh_4 i g0).trans (hf i g0)
    refine A_iret dX10_count_117 rfl ⟨_, rfl, (by first | (simp only [e8_0, e8_1, e8_2, e8_3, e8_4, e8_5, if_true, if_false, ite_true, ite_false, and_true, true_and, and_false, false_and, and_self, or_true, true_or, or_false, false_or, or_self, not_true_eq_false, not_false_eq_true, decide_true, decide_false, Bool.and_true, Bool.true_and, Bool.and_false, Bool.false_and, Bool.and_self, Bool.or_true, Bool.true_or, Bool.or_false, Bool.false_or, Bool.not_true, Bool.not_false, cond_true, cond_false, bI_t, bI_f, Bool.false_eq_true, Bool.true_eq_false, dayC_1, dayC_21, dayC_221, dayC_222, aCount, thF]; done) | (simp only [e8_0, e8_1, e8_2, e8_3, e8_4, eq_true e8_5, if_true, if_false, ite_true, ite_false, and_true, true_and, and_false, false_and, and_self, or_true, true_or, or_false, false_or, or_self, not_true_eq_false, not_false_eq_true, decide_true, decide_false, Bool.and_true, Bool.true_and, Bool.and_false, Bool.false_and, Bool.and_self, Bool.or_true, Bool.true_or, Bool.or_false, Bool.false_or, Bool.not_true, Bool.not_false, cond_true, cond_false, bI_t, bI_f, Bool.false_eq_true, Bool.true_eq_false, dayC_1, dayC_21, dayC_221, dayC_222, aCount, thF]; done) | (unfold aCount; rw [e8_4]; exact ee) | (unfold aCount thF; rw [if_neg e8_0, if_neg e8_1, if_neg e8_2, if_neg e8_3, if_pos e8_4]; exact ee) | (unfold aCount; rw [if_neg e8_0, if_neg e8_1, if_neg e8_2, if_neg e8_3, if_neg e8_4, if_pos e8_5]; exact (DT_0 x).symm) | (unfold aCount; rw [if_neg e8_0, if_neg e8_1, if_neg e8_2, if_neg e8_3, if_neg e8_4, if_neg e8_5, if_neg e8_6, if_neg e8_7, if_neg e8_8, if_pos c144, sub_10 hk11, nI_clamp (by omega)])), _, O28, hf⟩
  refine A_case (6) (fun e8_6 => ?_) (fun e8_6 => ?_)
  · skip
    refine A_switch 118 dX10_count_8 (by rw [e8_6]; decide) (by rw [e8_6]; rfl) (by decide) ?_
    refine A_aload_n 119 dX10_count_118 rfl rfl rfl ?_
    refine A_getfield 122 dX10_count_119 rfl f_X10_124 O28 rfl ?_
    try dsimp only
    refine A_iret dX10_count_122 rfl ⟨_, rfl, (by first | (simp only [e8_0, e8_1, e8_2, e8_3, e8_4, e8_5, e8_6, if_true, if_false, ite_true, ite_false, and_true, true_and, and_false, false_and, and_self, or_true, true_or, or_false, false_or, or_self, not_true_eq_false, not_false_eq_true, decide_true, decide_false, Bool.and_true, Bool.true_and, Bool.and_false, Bool.false_and, Bool.and_self, Bool.or_true, Bool.true_or, Bool.or_false, Bool.false_or, Bool.not_true, Bool.not_false, cond_true, cond_false, bI_t, bI_f, Bool.false_eq_true, Bool.true_eq_false, dayC_1, dayC_21, dayC_221, dayC_222, aCount, thF]; done) | (simp only [e8_0, e8_1, e8_2, e8_3, e8_4, e8_5, eq_true e8_6, if_true, if_false, ite_true, ite_false, and_true, true_and, and_false, false_and, and_self, or_true, true_or, or_false, false_or, or_self, not_true_eq_false, not_false_eq_true, decide_true, decide_false, Bool.and_true, Bool.true_and, Bool.and_false, Bool.false_and, Bool.and_self, Bool.or_true, Bool.true_or, Bool.or_false, Bool.false_or, Bool.not_true, Bool.not_false, cond_true, cond_false, bI_t, bI_f, Bool.false_eq_true, Bool.true_eq_false, dayC_1, dayC_21, dayC_221, dayC_222, aCount, thF]; done) | (unfold aCount; rw [e8_4]; exact ee) | (unfold aCount thF; rw [if_neg e8_0, if_neg e8_1, if_neg e8_2, if_neg e8_3, if_pos e8_4]; exact ee) | (unfold aCount; rw [if_neg e8_0, if_neg e8_1, if_neg e8_2, if_neg e8_3, if_neg e8_4, if_pos e8_5]; exact (DT_0 x).symm) | (unfold aCount; rw [if_neg e8_0, if_neg e8_1, if_neg e8_2, if_neg e8_3, if_neg e8_4, if_neg e8_5, if_neg e8_6, if_neg e8_7, if_neg e8_8, if_pos c144, sub_10 hk11, nI_clamp (by omega)])), _, O28, hf⟩
  refine A_case (7) (fun e8_7 => ?_) (fun e8_7 => ?_)
  · skip
    refine A_switch 123 dX10_count_8 (by rw [e8_7]; decide) (by rw [e8_7]; rfl) (by decide) ?_
    refine A_aload_n 124 dX10_count_123 rfl rfl rfl ?_
    refine A_getfield 127 dX10_count_124 rfl f_X10_236 O28 rfl ?_
    try dsimp only
    refine A_iret dX10_count_127 rfl ⟨_, rfl, (by first | (simp only [e8_0, e8_1, e8_2, e8_3, e8_4, e8_5, e8_6, e8_7, if_true, if_false, ite_true, ite_false, and_true, true_and, and_false, false_and, and_self, or_true, true_or, or_false, false_or, or_self, not_true_eq_false, not_false_eq_true, decide_true, decide_false, Bool.and_true, Bool.true_and, Bool.and_false, Bool.false_and, Bool.and_self, Bool.or_true, Bool.true_or, Bool.or_false, Bool.false_or, Bool.not_true, Bool.not_false, cond_true, cond_false, bI_t, bI_f, Bool.false_eq_true, Bool.true_eq_false, dayC_1, dayC_21, dayC_221, dayC_222, aCount, thF]; done) | (simp only [e8_0, e8_1, e8_2, e8_3, e8_4, e8_5, e8_6, eq_true e8_7, if_true, if_false, ite_true, ite_false, and_true, true_and, and_false, false_and, and_self, or_true, true_or, or_false, false_or, or_self, not_true_eq_false, not_false_eq_true, decide_true, decide_false, Bool.and_true, Bool.true_and, Bool.and_false, Bool.false_and, Bool.and_self, Bool.or_true, Bool.true_or, Bool.or_false, Bool.false_or, Bool.not_true, Bool.not_false, cond_true, cond_false, bI_t, bI_f, Bool.false_eq_true, Bool.true_eq_false, dayC_1, dayC_21, dayC_221, dayC_222, aCount, thF]; done) | (unfold aCount; rw [e8_4]; exact ee) | (unfold aCount thF; rw [if_neg e8_0, if_neg e8_1, if_neg e8_2, if_neg e8_3, if_pos e8_4]; exact ee) | (unfold aCount; rw [if_neg e8_0, if_neg e8_1, if_neg e8_2, if_neg e8_3, if_neg e8_4, if_pos e8_5]; exact (DT_0 x).symm) | (unfold aCount; rw [if_neg e8_0, if_neg e8_1, if_neg e8_2, if_neg e8_3, if_neg e8_4, if_neg e8_5, if_neg e8_6, if_neg e8_7, if_neg e8_8, if_pos c144, sub_10 hk11, nI_clamp (by omega)])), _, O28, hf⟩
  refine A_case (8) (fun e8_8 => ?_) (fun e8_8 => ?_)
  · skip
    refine A_switch 128 dX10_count_8 (by rw [e8_8]; decide) (by rw [e8_8]; rfl) (by decide) ?_
    refine A_aload_n 129 dX10_count_128 rfl rfl rfl ?_
    refine A_getfield 132 dX10_count_129 rfl f_X10_184 O28 rfl ?_
    try dsimp only
    refine A_iret dX10_count_132 rfl ⟨_, rfl, (by first | (simp only [e8_0, e8_1, e8_2, e8_3, e8_4, e8_5, e8_6, e8_7, e8_8, if_true, if_false, ite_true, ite_false, and_true, true_and, and_false, false_and, and_self, or_true, true_or, or_false, false_or, or_self, not_true_eq_false, not_false_eq_true, decide_true, decide_false, Bool.and_true, Bool.true_and, Bool.and_false, Bool.false_and, Bool.and_self, Bool.or_true, Bool.true_or, Bool.or_false, Bool.false_or, Bool.not_true, Bool.not_false, cond_true, cond_false, bI_t, bI_f, Bool.false_eq_true, Bool.true_eq_false, dayC_1, dayC_21, dayC_221, dayC_222, aCount, thF]; done) | (simp only [e8_0, e8_1, e8_2, e8_3, e8_4, e8_5, e8_6, e8_7, eq_true e8_8, if_true, if_false, ite_true, ite_false, and_true, true_and, and_false, false_and, and_self, or_true, true_or, or_false, false_or, or_self, not_true_eq_false, not_false_eq_true, decide_true, decide_false, Bool.and_true, Bool.true_and, Bool.and_false, Bool.false_and, Bool.and_self, Bool.or_true, Bool.true_or, Bool.or_false, Bool.false_or, Bool.not_true, Bool.not_false, cond_true, cond_false, bI_t, bI_f, Bool.false_eq_true, Bool.true_eq_false, dayC_1, dayC_21, dayC_221, dayC_222, aCount, thF]; done) | (unfold aCount; rw [e8_4]; exact ee) | (unfold aCount thF; rw [if_neg e8_0, if_neg e8_1, if_neg e8_2, if_neg e8_3, if_pos e8_4]; exact ee) | (unfold aCount; rw [if_neg e8_0, if_neg e8_1, if_neg e8_2, if_neg e8_3, if_neg e8_4, if_pos e8_5]; exact (DT_0 x).symm) | (unfold aCount; rw [if_neg e8_0, if_neg e8_1, if_neg e8_2, if_neg e8_3, if_neg e8_4, if_neg e8_5, if_neg e8_6, if_neg e8_7, if_neg e8_8, if_pos c144, sub_10 hk11, nI_clamp (by omega)])), _, O28, hf⟩
  refine A_switchD 133 dX10_count_8 (by have q0 := ne_toInt (k := 0) (z := 0) e8_0 (by decide); have q1 := ne_toInt (k := 1) (z := 1) e8_1 (by decide); have q2 := ne_toInt (k := 2) (z := 2) e8_2 (by decide); have q3 := ne_toInt (k := 3) (z := 3) e8_3 (by decide); have q4 := ne_toInt (k := 4) (z := 4) e8_4 (by decide); have q5 := ne_toInt (k := 5) (z := 5) e8_5 (by decide); have q6 := ne_toInt (k := 6) (z := 6) e8_6 (by decide); have q7 := ne_toInt (k := 7) (z := 7) e8_7 (by decide); have q8 := ne_toInt (k := 8) (z := 8) e8_8 (by decide); omega) (by decide) ?_
  refine A_iload_n 134 dX10_count_133 rfl rfl rfl ?_
  refine A_i2l 135 dX10_count_134 rfl ?_
  refine A_ldc2_w 138 _ dX10_count_135 rfl cn_X10_223 ?_
  refine A_ldc2_w 141 _ dX10_count_138 rfl cn_X10_289 ?_
  refine A_callSI 144 (S_X10_in X l) dX10_count_141 rfl kX10_in lk_X10_84 rfl (by decide) rfl (Nat.le_of_ble_eq_true rfl) (fun v_5 h_5 qh_5 => ?_)
  obtain ⟨rfl, rfl⟩ := qh_5
  refine A_if_eq 159 147 dX10_count_144 (by decide) rfl (fun c144 => ?_) (fun c144 => ?_)
  · skip
    try simp only [bI_0, bI_n0, Classical.not_not, Bool.not_eq_false, Bool.true_and, Bool.and_true, decide_eq_true_eq, decide_eq_false_iff_not, dayC_1, dayC_21, dayC_221, dayC_222, inI_1, inI_2, inI_3, inI_5, inI_11, inI_16] at c144
    refine A_bipush 161 (-9) dX10_count_159 rfl (by decide) ?_
    refine A_iret dX10_count_161 rfl ⟨_, rfl, (by first | (simp only [e8_0, e8_1, e8_2, e8_3, e8_4, e8_5, e8_6, e8_7, e8_8, c144, if_true, if_false, ite_true, ite_false, and_true, true_and, and_false, false_and, and_self, or_true, true_or, or_false, false_or, or_self, not_true_eq_false, not_false_eq_true, decide_true, decide_false, Bool.and_true, Bool.true_and, Bool.and_false, Bool.false_and, Bool.and_self, Bool.or_true, Bool.true_or, Bool.or_false, Bool.false_or, Bool.not_true, Bool.not_false, cond_true, cond_false, bI_t, bI_f, Bool.false_eq_true, Bool.true_eq_false, dayC_1, dayC_21, dayC_221, dayC_222, aCount, thF]; done) | (unfold aCount; rw [e8_4]; exact ee) | (unfold aCount thF; rw [if_neg e8_0, if_neg e8_1, if_neg e8_2, if_neg e8_3, if_pos e8_4]; exact ee) | (unfold aCount; rw [if_neg e8_0, if_neg e8_1, if_neg e8_2, if_neg e8_3, if_neg e8_4, if_pos e8_5]; exact (DT_0 x).symm) | (unfold aCount; rw [if_neg e8_0, if_neg e8_1, if_neg e8_2, if_neg e8_3, if_neg e8_4, if_neg e8_5, if_neg e8_6, if_neg e8_7, if_neg e8_8, if_pos c144, sub_10 hk11, nI_clamp (by omega)])), _, O28, hf⟩
  · skip
    try simp only [bI_0, bI_n0, Classical.not_not, Bool.not_eq_false, Bool.true_and, Bool.and_true, decide_eq_true_eq, decide_eq_false_iff_not, dayC_1, dayC_21, dayC_221, dayC_222, inI_1, inI_2, inI_3, inI_5, inI_11, inI_16] at c144
    have g1 := c144.1
    have g2 := c144.2
    obtain ⟨k_v, rfl, hk_v⟩ := nI_exg (n := 16) (fun z => g1 (Int32.lt_trans z (by decide))) g2 (by decide)
    have cl_v : (nI k_v).toNatClampNeg = k_v := nI_clamp (by omega)
    have hk11 : 11 ≤ k_v := by
      have q := mt (nlt_iff (a := k_v) (b := 11) (by omega) (by decide)).mpr g1
      omega
    refine A_aload_n 148 dX10_count_147 rfl rfl rfl ?_
    refine A_getfield 151 dX10_count_148 rfl f_X10_25 O28 rfl ?_
    refine A_iload_n 152 dX10_count_151 rfl rfl rfl ?_
    refine A_bipush 154 (10) dX10_count_152 rfl (by decide) ?_
    refine A_isub 155 dX10_count_154 rfl ?_
    rw [sub_10 hk11]
    refine A_iaload 156 dX10_count_155 rfl O28 rfl (by first | assumption | exact ix_nI (by omega) (by decide) | exact ix_lit _ rfl (by omega) (by decide) | exact ix_lit _ rfl (by decide) (by decide)) ?_
    try dsimp only
    refine A_goto 161 dX10_count_156 (by decide) ?_
    refine A_iret dX10_count_161 rfl ⟨_, rfl, (by first | (simp only [e8_0, e8_1, e8_2, e8_3, e8_4, e8_5, e8_6, e8_7, e8_8, c144, cl_v, if_true, if_false, ite_true, ite_false, and_true, true_and, and_false, false_and, and_self, or_true, true_or, or_false, false_or, or_self, not_true_eq_false, not_false_eq_true, decide_true, decide_false, Bool.and_true, Bool.true_and, Bool.and_false, Bool.false_and, Bool.and_self, Bool.or_true, Bool.true_or, Bool.or_false, Bool.false_or, Bool.not_true, Bool.not_false, cond_true, cond_false, bI_t, bI_f, Bool.false_eq_true, Bool.true_eq_false, dayC_1, dayC_21, dayC_221, dayC_222, aCount, thF]; done) | (unfold aCount; rw [e8_4]; exact ee) | (unfold aCount thF; rw [if_neg e8_0, if_neg e8_1, if_neg e8_2, if_neg e8_3, if_pos e8_4]; exact ee) | (unfold aCount; rw [if_neg e8_0, if_neg e8_1, if_neg e8_2, if_neg e8_3, if_neg e8_4, if_pos e8_5]; exact (DT_0 x).symm) | (unfold aCount; rw [if_neg e8_0, if_neg e8_1, if_neg e8_2, if_neg e8_3, if_neg e8_4, if_neg e8_5, if_neg e8_6, if_neg e8_7, if_neg e8_8, if_pos c144, sub_10 hk11, nI_clamp (by omega)])), _, O28, hf⟩
set_option maxHeartbeats 4000000 in
set_option maxRecDepth 100000 in
theorem S_X10_moreBy (X : En) (l : Launch) {h : Hp} {x : PW} {c : RC} {z : RZ} (O28 : h 28 = some (rB x (-1) c z)) (hW : WOK x) {p : Nat} (hp6 : p < 6) : Ct X l mX10_moreBy [aR 28 0, aI (nI p)] h (QI (fun vr h2 => (SP x (x.2.1 p)) = vr ∧ ∃ (z1 : RZ), h2 (28) = some (rB x (-1) c z1) ∧ (z1.2 = z.2) ∧ ∀ i, i ≠ 28 → h2 i = h i)) := by
  have hx := hW.1
  have hp := hW.2.1
  have h10 := hx.1
  have hf : ∀ i, i ≠ 28 → h i = h i := fun _ _ => rfl
  refine Ct.intro [some (aR 28 0), some (aI (nI p)), none, none, none] (by decide +kernel) rfl (Nat.le_of_ble_eq_true rfl) ?_
  refine A_aload_n 1 dX10_moreBy_0 rfl rfl rfl ?_
  refine A_aload_n 2 dX10_moreBy_1 rfl rfl rfl ?_
  refine A_getfield 5 dX10_moreBy_2 rfl f_X10_22 O28 rfl ?_
  refine A_iload_n 6 dX10_moreBy_5 rfl rfl rfl ?_
  refine A_iaload 7 dX10_moreBy_6 rfl O28 rfl (by first | assumption | exact ix_nI (by omega) (by decide) | exact ix_lit _ rfl (by omega) (by decide) | exact ix_lit _ rfl (by decide) (by decide)) ?_
  try dsimp only
  refine A_callVI 10 (S_X10_manyBy_n X l (by first | assumption | decide | omega | exact Ne.symm (by assumption)) (by first | assumption | decide | omega | exact Ne.symm (by assumption))) dX10_moreBy_7 rfl kX10_manyBy lk_X10_233 rfl O28 (by decide) rfl (Nat.le_of_ble_eq_true rfl) (fun v_1 h_1 qh_1 => ?_)
  obtain ⟨rfl, n0h_1, eh_1⟩ := qh_1
  replace O28 := n0h_1
  replace hf : ∀ i, i ≠ 28 → h_1 i = h i := fun i g0 => (eh_1 i g0).trans (hf i g0)
  refine A_istore_n 11 dX10_moreBy_10 rfl rfl (by decide) (by first | exact (ast_s (ast_1 rfl)) | exact (ast_s ast_k)) ?_
  refine A_iconst 12 (0) dX10_moreBy_11 rfl (by decide) ?_
  refine A_istore_n 13 dX10_moreBy_12 rfl rfl (by decide) (by first | exact (ast_s (ast_s (ast_1 rfl))) | exact (ast_s (ast_s ast_k))) ?_
  refine A_iconst 14 (0) dX10_moreBy_13 rfl (by decide) ?_
  refine A_istore 16 dX10_moreBy_14 rfl (by decide) (by first | exact (ast_s (ast_s (ast_s (ast_1 rfl)))) | exact (ast_s (ast_s (ast_s ast_k)))) ?_
  have L16 : ∀ (nq i : Nat) (u : Int32) (g16 : Hp) (z2 : RZ), (nq + i = 8) → (foldN (spF x (x.2.1 p)) (0) i = (u)) → (z2.2 = z.2) → (g16 28 = some (rB x (-1) c z2)) → (∀ i, i ≠ 28 → g16 i = h i) → Av X l mX10_moreBy 16 [some (aR 28 0), some (aI (nI (p))), some (aI (DN x (x.2.1 p))), some (aI (u)), some (aI (nI (i)))] [] g16 (QI (fun vr h2 => (SP x (x.2.1 p)) = vr ∧ ∃ (z1 : RZ), h2 (28) = some (rB x (-1) c z1) ∧ (z1.2 = z.2) ∧ ∀ i, i ≠ 28 → h2 i = h i)) := by
    intro nq
    induction nq using Nat.strongRecOn with
    | _ nq ih =>
    intro i u g16 z2 en ee hy O28 hf
    refine A_iload 18 dX10_moreBy_16 rfl rfl ?_
    refine A_bipush 20 (8) dX10_moreBy_18 rfl (by decide) ?_
    refine A_icmp_ge 71 23 dX10_moreBy_20 (by decide) rfl (fun c20 => ?_) (fun c20 => ?_)
    · skip
      obtain rfl := (up_ge_T (N := 8) c20 rfl (by omega) (by omega)).symm
      refine A_iload_n 72 dX10_moreBy_71 rfl rfl rfl ?_
      refine A_iret dX10_moreBy_72 rfl ⟨_, rfl, (by unfold SP; rw [ee]), _, O28, (hy), hf⟩
    · skip
      have hi := up_ge_F (N := 8) c20 rfl (by omega) (by omega)
      obtain ⟨n0, rfl⟩ : ∃ q, nq = q + 1 := ⟨nq - 1, by omega⟩
      refine A_iload_n 24 dX10_moreBy_23 rfl rfl rfl ?_
      refine A_aload_n 25 dX10_moreBy_24 rfl rfl rfl ?_
      refine A_getfield 28 dX10_moreBy_25 rfl f_X10_97 O28 rfl ?_
      try dsimp only
      refine A_iload 30 dX10_moreBy_28 rfl rfl ?_
      refine A_callSI 33 (S_X10_hasBit X l) dX10_moreBy_30 rfl kX10_hasBit lk_X10_93 rfl (by decide) rfl (Nat.le_of_ble_eq_true rfl) (fun v_2 h_2 qh_2 => ?_)
      obtain ⟨rfl, rfl⟩ := qh_2
      refine A_if_eq 62 36 dX10_moreBy_33 (by decide) rfl (fun c33 => ?_) (fun c33 => ?_)
      · skip
        try simp only [bI_0, bI_n0, Classical.not_not, Bool.not_eq_false, Bool.true_and, Bool.and_true, decide_eq_true_eq, decide_eq_false_iff_not, dayC_1, dayC_21, dayC_221, dayC_222, inI_1, inI_2, inI_3, inI_5, inI_11, inI_16] at c33
        refine A_iconst 63 (0) dX10_moreBy_62 rfl (by decide) ?_
        refine A_ior 64 dX10_moreBy_63 rfl ?_
        refine A_istore_n 65 dX10_moreBy_64 rfl rfl (by decide) (by first | exact (ast_s (ast_s (ast_1 rfl))) | exact (ast_s (ast_s ast_k))) ?_
        first | refine A_iincN 68 dX10_moreBy_65 rfl rfl (by decide) (by first | exact (ast_s (ast_s (ast_s (ast_1 rfl)))) | exact (ast_s (ast_s (ast_s ast_k)))) ?_ | refine A_iinc 68 (1) dX10_moreBy_65 rfl rfl (by decide) (by decide) (by first | exact (ast_s (ast_s (ast_s (ast_1 rfl)))) | exact (ast_s (ast_s (ast_s ast_k)))) ?_
        refine A_goto 16 dX10_moreBy_68 (by decide) ?_
        exact ih n0 (Nat.lt_succ_self n0) (i + 1) _ g16 _ (by omega) ((foldN_s (spF x (x.2.1 p)) (0) i).trans ((congrArg ((spF x (x.2.1 p)) i) ee).trans (by first | with_reducible rfl | (simp only [c33, if_true, if_false, ite_true, ite_false, and_true, true_and, and_false, false_and, and_self, or_true, true_or, or_false, false_or, or_self, not_true_eq_false, not_false_eq_true, decide_true, decide_false, Bool.and_true, Bool.true_and, Bool.and_false, Bool.false_and, Bool.and_self, Bool.or_true, Bool.true_or, Bool.or_false, Bool.false_or, Bool.not_true, Bool.not_false, cond_true, cond_false, bI_t, bI_f, Bool.false_eq_true, Bool.true_eq_false, dayC_1, dayC_21, dayC_221, dayC_222, spF, Int32.or_zero]; done) | (simp [*, spF, Int32.or_zero]; done) | with_reducible_and_instances rfl))) (by exact hy) O28 hf
      · skip
        try simp only [bI_0, bI_n0, Classical.not_not, Bool.not_eq_false, Bool.true_and, Bool.and_true, decide_eq_true_eq, decide_eq_false_iff_not, dayC_1, dayC_21, dayC_221, dayC_222, inI_1, inI_2, inI_3, inI_5, inI_11, inI_16] at c33
        refine A_aload_n 37 dX10_moreBy_36 rfl rfl rfl ?_
        refine A_aload_n 38 dX10_moreBy_37 rfl rfl rfl ?_
        refine A_getfield 41 dX10_moreBy_38 rfl f_X10_22 O28 rfl ?_
        refine A_iload_n 42 dX10_moreBy_41 rfl rfl rfl ?_
        refine A_iaload 43 dX10_moreBy_42 rfl O28 rfl (by first | assumption | exact ix_nI (by omega) (by decide) | exact ix_lit _ rfl (by omega) (by decide) | exact ix_lit _ rfl (by decide) (by decide)) ?_
        try dsimp only
        refine A_iconst 44 (1) dX10_moreBy_43 rfl (by decide) ?_
        refine A_iload 46 dX10_moreBy_44 rfl rfl ?_
        refine A_ishl 47 dX10_moreBy_46 rfl ?_
        rw [sh_tb hi]
        refine A_ior 48 dX10_moreBy_47 rfl ?_
        refine A_callVI 51 (S_X10_manyBy_n X l (by first | assumption | decide | omega | exact Ne.symm (by assumption)) (by first | assumption | decide | omega | exact Ne.symm (by assumption))) dX10_moreBy_48 rfl kX10_manyBy lk_X10_233 rfl O28 (by decide) rfl (Nat.le_of_ble_eq_true rfl) (fun v_3 h_3 qh_3 => ?_)
        obtain ⟨rfl, n0h_3, eh_3⟩ := qh_3
        replace O28 := n0h_3
        replace hf : ∀ i, i ≠ 28 → h_3 i = h i := fun i g0 => (eh_3 i g0).trans (hf i g0)
        refine A_iload_n 52 dX10_moreBy_51 rfl rfl rfl ?_
        refine A_icmp_le 62 55 dX10_moreBy_52 (by decide) rfl (fun c52 => ?_) (fun c52 => ?_)
        · skip
          try simp only [bI_0, bI_n0, Classical.not_not, Bool.not_eq_false, Bool.true_and, Bool.and_true, decide_eq_true_eq, decide_eq_false_iff_not, dayC_1, dayC_21, dayC_221, dayC_222, inI_1, inI_2, inI_3, inI_5, inI_11, inI_16] at c52
          have n52 := c52
          replace c52 := Int32.not_lt.mpr c52
          refine A_iconst 63 (0) dX10_moreBy_62 rfl (by decide) ?_
          refine A_ior 64 dX10_moreBy_63 rfl ?_
          refine A_istore_n 65 dX10_moreBy_64 rfl rfl (by decide) (by first | exact (ast_s (ast_s (ast_1 rfl))) | exact (ast_s (ast_s ast_k))) ?_
          first | refine A_iincN 68 dX10_moreBy_65 rfl rfl (by decide) (by first | exact (ast_s (ast_s (ast_s (ast_1 rfl)))) | exact (ast_s (ast_s (ast_s ast_k)))) ?_ | refine A_iinc 68 (1) dX10_moreBy_65 rfl rfl (by decide) (by decide) (by first | exact (ast_s (ast_s (ast_s (ast_1 rfl)))) | exact (ast_s (ast_s (ast_s ast_k)))) ?_
          refine A_goto 16 dX10_moreBy_68 (by decide) ?_
          exact ih n0 (Nat.lt_succ_self n0) (i + 1) _ h_3 _ (by omega) ((foldN_s (spF x (x.2.1 p)) (0) i).trans ((congrArg ((spF x (x.2.1 p)) i) ee).trans (by first | with_reducible rfl | (simp only [c33, c52, n52, if_true, if_false, ite_true, ite_false, and_true, true_and, and_false, false_and, and_self, or_true, true_or, or_false, false_or, or_self, not_true_eq_false, not_false_eq_true, decide_true, decide_false, Bool.and_true, Bool.true_and, Bool.and_false, Bool.false_and, Bool.and_self, Bool.or_true, Bool.true_or, Bool.or_false, Bool.false_or, Bool.not_true, Bool.not_false, cond_true, cond_false, bI_t, bI_f, Bool.false_eq_true, Bool.true_eq_false, dayC_1, dayC_21, dayC_221, dayC_222, spF, Int32.or_zero]; done) | (simp [*, spF, Int32.or_zero]; done) | with_reducible_and_instances rfl))) (by exact hy) O28 hf
        · skip
          try simp only [bI_0, bI_n0, Classical.not_not, Bool.not_eq_false, Bool.true_and, Bool.and_true, decide_eq_true_eq, decide_eq_false_iff_not, dayC_1, dayC_21, dayC_221, dayC_222, inI_1, inI_2, inI_3, inI_5, inI_11, inI_16] at c52
          have n52 := c52
          replace c52 := Int32.not_le.mp c52
          refine A_iconst 56 (1) dX10_moreBy_55 rfl (by decide) ?_
          refine A_iload 58 dX10_moreBy_56 rfl rfl ?_
          refine A_ishl 59 dX10_moreBy_58 rfl ?_
          rw [sh_tb hi]
          refine A_goto 63 dX10_moreBy_59 (by decide) ?_
          refine A_ior 64 dX10_moreBy_63 rfl ?_
          refine A_istore_n 65 dX10_moreBy_64 rfl rfl (by decide) (by first | exact (ast_s (ast_s (ast_1 rfl))) | exact (ast_s (ast_s ast_k))) ?_
          first | refine A_iincN 68 dX10_moreBy_65 rfl rfl (by decide) (by first | exact (ast_s (ast_s (ast_s (ast_1 rfl)))) | exact (ast_s (ast_s (ast_s ast_k)))) ?_ | refine A_iinc 68 (1) dX10_moreBy_65 rfl rfl (by decide) (by decide) (by first | exact (ast_s (ast_s (ast_s (ast_1 rfl)))) | exact (ast_s (ast_s (ast_s ast_k)))) ?_
          refine A_goto 16 dX10_moreBy_68 (by decide) ?_
          exact ih n0 (Nat.lt_succ_self n0) (i + 1) _ h_3 _ (by omega) ((foldN_s (spF x (x.2.1 p)) (0) i).trans ((congrArg ((spF x (x.2.1 p)) i) ee).trans (by first | with_reducible rfl | (simp only [c33, c52, n52, if_true, if_false, ite_true, ite_false, and_true, true_and, and_false, false_and, and_self, or_true, true_or, or_false, false_or, or_self, not_true_eq_false, not_false_eq_true, decide_true, decide_false, Bool.and_true, Bool.true_and, Bool.and_false, Bool.false_and, Bool.and_self, Bool.or_true, Bool.true_or, Bool.or_false, Bool.false_or, Bool.not_true, Bool.not_false, cond_true, cond_false, bI_t, bI_f, Bool.false_eq_true, Bool.true_eq_false, dayC_1, dayC_21, dayC_221, dayC_222, spF, Int32.or_zero]; done) | (simp [*, spF, Int32.or_zero]; done) | with_reducible_and_instances rfl))) (by exact hy) O28 hf
  exact L16 (8) (0) (_) h_1 (_) (by omega) (rfl) (by rfl) O28 hf
set_option maxHeartbeats 4000000 in
set_option maxRecDepth 100000 in
theorem S_X10_onTray (X : En) (l : Launch) {h : Hp} {x : PW} {c : RC} {z : RZ} (O28 : h 28 = some (rB x (-1) c z)) (hW : WOK x)  {p : Int32} : Ct X l mX10_onTray [aR 28 0, aI p] h (QI (fun vr h2 => (rV (wP x p) (SP x (pk x p))) = vr ∧ ∃ (z1 : RZ), h2 (28) = some (rB x (-1) (rS (wP x p) c.1, c.2) z1) ∧ ∀ i, i ≠ 28 → h2 i = h i)) := by
  have hx := hW.1
  have hp := hW.2.1
  have h10 := hx.1
  have hf : ∀ i, i ≠ 28 → h i = h i := fun _ _ => rfl
  refine Ct.intro [some (aR 28 0), some (aI p)] (by decide +kernel) rfl (Nat.le_of_ble_eq_true rfl) ?_
  refine A_aload_n 1 dX10_onTray_0 rfl rfl rfl ?_
  refine A_iconst 2 (0) dX10_onTray_1 rfl (by decide) ?_
  refine P_X10_9 5 dX10_onTray_2 rfl fw_X10_78 O28 (fun h_1 nh_1 eh_1 => ?_)
  replace O28 := nh_1
  replace hf : ∀ i, i ≠ 28 → h_1 i = h i := fun i g0 => (eh_1 i g0).trans (hf i g0)
  try dsimp only at O28
  refine A_aload_n 6 dX10_onTray_5 rfl rfl rfl ?_
  refine A_iload_n 7 dX10_onTray_6 rfl rfl rfl ?_
  refine A_callVI 10 (S_X10_isOne X l (by first | assumption | decide | omega | exact Ne.symm (by assumption)) (by first | assumption | decide | omega | exact Ne.symm (by assumption))) dX10_onTray_7 rfl kX10_isOne lk_X10_160 rfl O28 (by decide) rfl (Nat.le_of_ble_eq_true rfl) (fun v_2 h_2 qh_2 => ?_)
  obtain ⟨rfl, rfl⟩ := qh_2
  refine A_if_eq 21 13 dX10_onTray_10 (by decide) rfl (fun c10 => ?_) (fun c10 => ?_)
  · skip
    try simp only [bI_0, bI_n0, Classical.not_not, Bool.not_eq_false, Bool.true_and, Bool.and_true, decide_eq_true_eq, decide_eq_false_iff_not, dayC_1, dayC_21, dayC_221, dayC_222, inI_1, inI_2, inI_3, inI_5, inI_11, inI_16] at c10
    refine A_aload_n 22 dX10_onTray_21 rfl rfl rfl ?_
    refine A_iconst 23 (-1) dX10_onTray_22 rfl (by decide) ?_
    refine A_callVI 26 (S_X10_refuse_c X l (by first | assumption | decide | omega | exact Ne.symm (by assumption)) (by first | assumption | (unfold CD; decide))) dX10_onTray_23 rfl kX10_refuse lk_X10_121 rfl O28 (by decide) rfl (Nat.le_of_ble_eq_true rfl) (fun v_3 h_3 qh_3 => ?_)
    obtain ⟨rfl, n0h_3, eh_3⟩ := qh_3
    replace O28 := n0h_3
    replace hf : ∀ i, i ≠ 28 → h_3 i = h i := fun i g0 => (eh_3 i g0).trans (hf i g0)
    have ew : wP x p = -1 := by
      first | (simp only [c10, if_true, if_false, ite_true, ite_false, and_true, true_and, and_false, false_and, and_self, or_true, true_or, or_false, false_or, or_self, not_true_eq_false, not_false_eq_true, decide_true, decide_false, Bool.and_true, Bool.true_and, Bool.and_false, Bool.false_and, Bool.and_self, Bool.or_true, Bool.true_or, Bool.or_false, Bool.false_or, Bool.not_true, Bool.not_false, cond_true, cond_false, bI_t, bI_f, Bool.false_eq_true, Bool.true_eq_false, dayC_1, dayC_21, dayC_221, dayC_222, w01, wP, wPL, wP01, wL01, wRow, w01R, wAB, wNum, isP, isL]; done) | exact cl_f
    refine A_iret dX10_onTray_26 rfl ⟨_, rfl, (by rw [ew]; exact rV_n (by decide)), _, (by rw [ew]; first | (rw [rS_0]; exact O28) | exact O28), hf⟩
  · skip
    try simp only [bI_0, bI_n0, Classical.not_not, Bool.not_eq_false, Bool.true_and, Bool.and_true, decide_eq_true_eq, decide_eq_false_iff_not, dayC_1, dayC_21, dayC_221, dayC_222, inI_1, inI_2, inI_3, inI_5, inI_11, inI_16] at c10
    obtain ⟨k_p, rfl, hk_p⟩ := inN_ex c10 (by omega)
    have cl_p : (nI k_p).toNatClampNeg = k_p := nI_clamp (by omega)
    refine A_aload_n 14 dX10_onTray_13 rfl rfl rfl ?_
    refine A_iload_n 15 dX10_onTray_14 rfl rfl rfl ?_
    refine A_callVI 18 (S_X10_moreBy X l (by first | assumption | decide | omega | exact Ne.symm (by assumption)) (by first | assumption | decide | omega | exact Ne.symm (by assumption)) (by first | assumption | decide | omega | exact Ne.symm (by assumption))) dX10_onTray_15 rfl kX10_moreBy lk_X10_261 rfl O28 (by decide) rfl (Nat.le_of_ble_eq_true rfl) (fun v_4 h_4 qh_4 => ?_)
    obtain ⟨rfl, z1_4, n0h_4, ph_4, eh_4⟩ := qh_4
    replace O28 := n0h_4
    replace hf : ∀ i, i ≠ 28 → h_4 i = h i := fun i g0 => (eh_4 i g0).trans (hf i g0)
    refine A_goto 26 dX10_onTray_18 (by decide) ?_
    have ew : wP x (nI k_p) = 0 := by
      first | (simp only [c10, cl_p, if_true, if_false, ite_true, ite_false, and_true, true_and, and_false, false_and, and_self, or_true, true_or, or_false, false_or, or_self, not_true_eq_false, not_false_eq_true, decide_true, decide_false, Bool.and_true, Bool.true_and, Bool.and_false, Bool.false_and, Bool.and_self, Bool.or_true, Bool.true_or, Bool.or_false, Bool.false_or, Bool.not_true, Bool.not_false, cond_true, cond_false, bI_t, bI_f, Bool.false_eq_true, Bool.true_eq_false, dayC_1, dayC_21, dayC_221, dayC_222, w01, wP, wPL, wP01, wL01, wRow, w01R, wAB, wNum, isP, isL]; done) | exact cl_f
    refine A_iret dX10_onTray_26 rfl ⟨_, rfl, (by rw [ew, rV_0]; unfold pk; rw [cl_p]), _, (by rw [ew]; first | (rw [rS_0]; exact O28) | exact O28), hf⟩
set_option maxHeartbeats 4000000 in
set_option maxRecDepth 100000 in
theorem S_X10_strikes (X : En) (l : Launch) {h : Hp} {x : PW} {c : RC} {z : RZ} (O28 : h 28 = some (rB x (-1) c z)) (hW : WOK x) {p k : Nat} (hp6 : p < 6) (hk : k ≤ 8) : Ct X l mX10_strikes [aR 28 0, aI (nI p), aI (nI k)] h (QI (fun vr h2 => (MS x (x.2.1 p) (nI k)) = vr ∧ ∃ (z1 : RZ), h2 (28) = some (rB x (-1) c z1) ∧ ∀ i, i ≠ 28 → h2 i = h i)) := by
  have hx := hW.1
  have hp := hW.2.1
  have h10 := hx.1
  have hf : ∀ i, i ≠ 28 → h i = h i := fun _ _ => rfl
  refine Ct.intro [some (aR 28 0), some (aI (nI p)), some (aI (nI k)), none, none, none, none] (by decide +kernel) rfl (Nat.le_of_ble_eq_true rfl) ?_
  refine A_joinI 27 (fun vj => vj = x.2.1 p &&& (tbI (nI k) ^^^ (-1))) (fun j27 => ?_) (fun v27 e27 => ?_)
  · skip
    refine A_iload_n 1 dX10_strikes_0 rfl rfl rfl ?_
    refine A_bipush 3 (8) dX10_strikes_1 rfl (by decide) ?_
    refine A_icmp_ne 15 6 dX10_strikes_3 (by decide) rfl (fun c3 => ?_) (fun c3 => ?_)
    · skip
      try simp only [bI_0, bI_n0, Classical.not_not, Bool.not_eq_false, Bool.true_and, Bool.and_true, decide_eq_true_eq, decide_eq_false_iff_not, dayC_1, dayC_21, dayC_221, dayC_222, inI_1, inI_2, inI_3, inI_5, inI_11, inI_16] at c3
      have hk8 : k < 8 := by
        have q := mt (ninj (a := k) (b := 8) (by omega) (by decide)).mpr c3
        omega
      refine A_aload_n 16 dX10_strikes_15 rfl rfl rfl ?_
      refine A_getfield 19 dX10_strikes_16 rfl f_X10_22 O28 rfl ?_
      refine A_iload_n 20 dX10_strikes_19 rfl rfl rfl ?_
      refine A_iaload 21 dX10_strikes_20 rfl O28 rfl (by first | assumption | exact ix_nI (by omega) (by decide) | exact ix_lit _ rfl (by omega) (by decide) | exact ix_lit _ rfl (by decide) (by decide)) ?_
      try dsimp only
      refine A_iconst 22 (1) dX10_strikes_21 rfl (by decide) ?_
      refine A_iload_n 23 dX10_strikes_22 rfl rfl rfl ?_
      refine A_ishl 24 dX10_strikes_23 rfl ?_
      rw [sh_tb hk8]
      refine A_iconst 25 (-1) dX10_strikes_24 rfl (by decide) ?_
      refine A_ixor 26 dX10_strikes_25 rfl ?_
      refine A_iand 27 dX10_strikes_26 rfl ?_
      exact j27 _ (by first | rfl | (rw [hk8]; exact (tb8 _).symm))
    · skip
      try simp only [bI_0, bI_n0, Classical.not_not, Bool.not_eq_false, Bool.true_and, Bool.and_true, decide_eq_true_eq, decide_eq_false_iff_not, dayC_1, dayC_21, dayC_221, dayC_222, inI_1, inI_2, inI_3, inI_5, inI_11, inI_16] at c3
      have hk8 : k = 8 := (ninj (a := k) (b := 8) (by omega) (by decide)).mp c3
      refine A_aload_n 7 dX10_strikes_6 rfl rfl rfl ?_
      refine A_getfield 10 dX10_strikes_7 rfl f_X10_22 O28 rfl ?_
      refine A_iload_n 11 dX10_strikes_10 rfl rfl rfl ?_
      refine A_iaload 12 dX10_strikes_11 rfl O28 rfl (by first | assumption | exact ix_nI (by omega) (by decide) | exact ix_lit _ rfl (by omega) (by decide) | exact ix_lit _ rfl (by decide) (by decide)) ?_
      try dsimp only
      refine A_goto 27 dX10_strikes_12 (by decide) ?_
      exact j27 _ (by first | rfl | (rw [hk8]; exact (tb8 _).symm))
  subst e27
  refine A_istore_n 28 dX10_strikes_27 rfl rfl (by decide) (by first | exact (ast_s (ast_s (ast_1 rfl))) | exact (ast_s (ast_s ast_k))) ?_
  refine A_aload_n 29 dX10_strikes_28 rfl rfl rfl ?_
  refine A_iload_n 30 dX10_strikes_29 rfl rfl rfl ?_
  refine A_callVI 33 (S_X10_manyBy_n X l (by first | assumption | decide | omega | exact Ne.symm (by assumption)) (by first | assumption | decide | omega | exact Ne.symm (by assumption))) dX10_strikes_30 rfl kX10_manyBy lk_X10_233 rfl O28 (by decide) rfl (Nat.le_of_ble_eq_true rfl) (fun v_1 h_1 qh_1 => ?_)
  obtain ⟨rfl, n0h_1, eh_1⟩ := qh_1
  replace O28 := n0h_1
  replace hf : ∀ i, i ≠ 28 → h_1 i = h i := fun i g0 => (eh_1 i g0).trans (hf i g0)
  refine A_istore 35 dX10_strikes_33 rfl (by decide) (by first | exact (ast_s (ast_s (ast_s (ast_1 rfl)))) | exact (ast_s (ast_s (ast_s ast_k)))) ?_
  refine A_iconst 36 (0) dX10_strikes_35 rfl (by decide) ?_
  refine A_istore 38 dX10_strikes_36 rfl (by decide) (by first | exact (ast_s (ast_s (ast_s (ast_s (ast_1 rfl))))) | exact (ast_s (ast_s (ast_s (ast_s ast_k))))) ?_
  have L38 : ∀ (nq i : Nat) (u : Int32) (g38 : Hp) (z2 : RZ), (nq + i = 8) → (foldN (msF x (x.2.1 p) (nI k)) (DN x (x.2.1 p &&& (tbI (nI k) ^^^ (-1)))) i = (u)) → (¬ u < 0) → (g38 28 = some (rB x (-1) c z2)) → (∀ i, i ≠ 28 → g38 i = h i) → Av X l mX10_strikes 38 [some (aR 28 0), some (aI (nI (p))), some (aI (nI (k))), some (aI (x.2.1 p &&& (tbI (nI k) ^^^ (-1)))), some (aI (u)), some (aI (nI (i))), none] [] g38 (QI (fun vr h2 => (MS x (x.2.1 p) (nI k)) = vr ∧ ∃ (z1 : RZ), h2 (28) = some (rB x (-1) c z1) ∧ ∀ i, i ≠ 28 → h2 i = h i)) := by
    intro nq
    induction nq using Nat.strongRecOn with
    | _ nq ih =>
    intro i u g38 z2 en ee hy O28 hf
    refine A_iload 40 dX10_strikes_38 rfl rfl ?_
    refine A_bipush 42 (8) dX10_strikes_40 rfl (by decide) ?_
    refine A_icmp_ge 89 45 dX10_strikes_42 (by decide) rfl (fun c42 => ?_) (fun c42 => ?_)
    · skip
      obtain rfl := (up_ge_T (N := 8) c42 rfl (by omega) (by omega)).symm
      refine A_iload 91 dX10_strikes_89 rfl rfl ?_
      refine A_iret dX10_strikes_91 rfl ⟨_, rfl, (by unfold MS; rw [ee]), _, O28, hf⟩
    · skip
      have hi := up_ge_F (N := 8) c42 rfl (by omega) (by omega)
      obtain ⟨n0, rfl⟩ : ∃ q, nq = q + 1 := ⟨nq - 1, by omega⟩
      refine A_iload 47 dX10_strikes_45 rfl rfl ?_
      refine A_iload_n 48 dX10_strikes_47 rfl rfl rfl ?_
      refine A_icmp_ne 55 51 dX10_strikes_48 (by decide) rfl (fun c48 => ?_) (fun c48 => ?_)
      · skip
        try simp only [bI_0, bI_n0, Classical.not_not, Bool.not_eq_false, Bool.true_and, Bool.and_true, decide_eq_true_eq, decide_eq_false_iff_not, dayC_1, dayC_21, dayC_221, dayC_222, inI_1, inI_2, inI_3, inI_5, inI_11, inI_16] at c48
        refine A_aload_n 56 dX10_strikes_55 rfl rfl rfl ?_
        refine A_iload_n 57 dX10_strikes_56 rfl rfl rfl ?_
        refine A_iconst 58 (1) dX10_strikes_57 rfl (by decide) ?_
        refine A_iload 60 dX10_strikes_58 rfl rfl ?_
        refine A_ishl 61 dX10_strikes_60 rfl ?_
        rw [sh_tb hi]
        refine A_ior 62 dX10_strikes_61 rfl ?_
        refine A_callVI 65 (S_X10_manyBy_n X l (by first | assumption | decide | omega | exact Ne.symm (by assumption)) (by first | assumption | decide | omega | exact Ne.symm (by assumption))) dX10_strikes_62 rfl kX10_manyBy lk_X10_233 rfl O28 (by decide) rfl (Nat.le_of_ble_eq_true rfl) (fun v_2 h_2 qh_2 => ?_)
        obtain ⟨rfl, n0h_2, eh_2⟩ := qh_2
        replace O28 := n0h_2
        replace hf : ∀ i, i ≠ 28 → h_2 i = h i := fun i g0 => (eh_2 i g0).trans (hf i g0)
        refine A_istore 67 dX10_strikes_65 rfl (by decide) (by first | exact (ast_s (ast_s (ast_s (ast_s (ast_s (ast_1 rfl)))))) | exact (ast_s (ast_s (ast_s (ast_s (ast_s ast_k)))))) ?_
        refine A_iload 69 dX10_strikes_67 rfl rfl ?_
        refine A_iload 71 dX10_strikes_69 rfl rfl ?_
        refine A_icmp_le 79 74 dX10_strikes_71 (by decide) rfl (fun c71 => ?_) (fun c71 => ?_)
        · skip
          try simp only [bI_0, bI_n0, Classical.not_not, Bool.not_eq_false, Bool.true_and, Bool.and_true, decide_eq_true_eq, decide_eq_false_iff_not, dayC_1, dayC_21, dayC_221, dayC_222, inI_1, inI_2, inI_3, inI_5, inI_11, inI_16] at c71
          have n71 := c71
          replace c71 := Int32.not_lt.mpr c71
          refine A_iload 81 dX10_strikes_79 rfl rfl ?_
          refine A_istore 83 dX10_strikes_81 rfl (by decide) (by first | exact (ast_s (ast_s (ast_s (ast_1 rfl)))) | exact (ast_s (ast_s (ast_s ast_k)))) ?_
          first | refine A_iincN 86 dX10_strikes_83 rfl rfl (by decide) (by first | exact (ast_s (ast_s (ast_s (ast_s (ast_1 rfl))))) | exact (ast_s (ast_s (ast_s (ast_s ast_k))))) ?_ | refine A_iinc 86 (1) dX10_strikes_83 rfl rfl (by decide) (by decide) (by first | exact (ast_s (ast_s (ast_s (ast_s (ast_1 rfl))))) | exact (ast_s (ast_s (ast_s (ast_s ast_k))))) ?_
          refine A_goto 38 dX10_strikes_86 (by decide) ?_
          exact A_weak (ih n0 (Nat.lt_succ_self n0) (i + 1) _ h_2 _ (by omega) ((foldN_s (msF x (x.2.1 p) (nI k)) (DN x (x.2.1 p &&& (tbI (nI k) ^^^ (-1)))) i).trans ((congrArg ((msF x (x.2.1 p) (nI k)) i) ee).trans (by first | with_reducible rfl | (simp only [c48, c71, n71, if_true, if_false, ite_true, ite_false, and_true, true_and, and_false, false_and, and_self, or_true, true_or, or_false, false_or, or_self, not_true_eq_false, not_false_eq_true, decide_true, decide_false, Bool.and_true, Bool.true_and, Bool.and_false, Bool.false_and, Bool.and_self, Bool.or_true, Bool.true_or, Bool.or_false, Bool.false_or, Bool.not_true, Bool.not_false, cond_true, cond_false, bI_t, bI_f, Bool.false_eq_true, Bool.true_eq_false, dayC_1, dayC_21, dayC_221, dayC_222, msF]; done) | (with_reducible first | exact absurd c48 c71 | exact absurd c48 hy | exact absurd c48 hyb | exact absurd c71 c48 | exact absurd c71 hy | exact absurd c71 hyb | exact absurd hy c48 | exact absurd hy c71 | exact absurd hy hyb | exact absurd hyb c48 | exact absurd hyb c71 | exact absurd hyb hy | (rw [c48] at c71; cases c71) | (rw [c71] at c48; cases c48)) | (simp [*, msF]; done) | with_reducible_and_instances rfl))) (by first | exact hy | exact absurd c71 hy | (obtain ⟨m, hm, e⟩ := DN_nn x hx _; rw [e]; exact nI_pos (by omega))) O28 hf) (sub_s (sub_s (sub_s (sub_s (sub_s (sub_s (sub_n sub_nil)))))))
        · skip
          try simp only [bI_0, bI_n0, Classical.not_not, Bool.not_eq_false, Bool.true_and, Bool.and_true, decide_eq_true_eq, decide_eq_false_iff_not, dayC_1, dayC_21, dayC_221, dayC_222, inI_1, inI_2, inI_3, inI_5, inI_11, inI_16] at c71
          have n71 := c71
          replace c71 := Int32.not_le.mp c71
          refine A_iload 76 dX10_strikes_74 rfl rfl ?_
          refine A_goto 81 dX10_strikes_76 (by decide) ?_
          refine A_istore 83 dX10_strikes_81 rfl (by decide) (by first | exact (ast_s (ast_s (ast_s (ast_1 rfl)))) | exact (ast_s (ast_s (ast_s ast_k)))) ?_
          first | refine A_iincN 86 dX10_strikes_83 rfl rfl (by decide) (by first | exact (ast_s (ast_s (ast_s (ast_s (ast_1 rfl))))) | exact (ast_s (ast_s (ast_s (ast_s ast_k))))) ?_ | refine A_iinc 86 (1) dX10_strikes_83 rfl rfl (by decide) (by decide) (by first | exact (ast_s (ast_s (ast_s (ast_s (ast_1 rfl))))) | exact (ast_s (ast_s (ast_s (ast_s ast_k))))) ?_
          refine A_goto 38 dX10_strikes_86 (by decide) ?_
          exact A_weak (ih n0 (Nat.lt_succ_self n0) (i + 1) _ h_2 _ (by omega) ((foldN_s (msF x (x.2.1 p) (nI k)) (DN x (x.2.1 p &&& (tbI (nI k) ^^^ (-1)))) i).trans ((congrArg ((msF x (x.2.1 p) (nI k)) i) ee).trans (by first | with_reducible rfl | (simp only [c48, c71, n71, if_true, if_false, ite_true, ite_false, and_true, true_and, and_false, false_and, and_self, or_true, true_or, or_false, false_or, or_self, not_true_eq_false, not_false_eq_true, decide_true, decide_false, Bool.and_true, Bool.true_and, Bool.and_false, Bool.false_and, Bool.and_self, Bool.or_true, Bool.true_or, Bool.or_false, Bool.false_or, Bool.not_true, Bool.not_false, cond_true, cond_false, bI_t, bI_f, Bool.false_eq_true, Bool.true_eq_false, dayC_1, dayC_21, dayC_221, dayC_222, msF]; done) | (with_reducible first | exact absurd c48 c71 | exact absurd c48 hy | exact absurd c48 hyb | exact absurd c71 c48 | exact absurd c71 hy | exact absurd c71 hyb | exact absurd hy c48 | exact absurd hy c71 | exact absurd hy hyb | exact absurd hyb c48 | exact absurd hyb c71 | exact absurd hyb hy | (rw [c48] at c71; cases c71) | (rw [c71] at c48; cases c48)) | (simp [*, msF]; done) | with_reducible_and_instances rfl))) (by first | exact hy | exact absurd c71 hy | (obtain ⟨m, hm, e⟩ := DN_nn x hx _; rw [e]; exact nI_pos (by omega))) O28 hf) (sub_s (sub_s (sub_s (sub_s (sub_s (sub_s (sub_n sub_nil)))))))
      · skip
        try simp only [bI_0, bI_n0, Classical.not_not, Bool.not_eq_false, Bool.true_and, Bool.and_true, decide_eq_true_eq, decide_eq_false_iff_not, dayC_1, dayC_21, dayC_221, dayC_222, inI_1, inI_2, inI_3, inI_5, inI_11, inI_16] at c48
        refine A_iconst 52 (0) dX10_strikes_51 rfl (by decide) ?_
        refine A_goto 65 dX10_strikes_52 (by decide) ?_
        refine A_istore 67 dX10_strikes_65 rfl (by decide) (by first | exact (ast_s (ast_s (ast_s (ast_s (ast_s (ast_1 rfl)))))) | exact (ast_s (ast_s (ast_s (ast_s (ast_s ast_k)))))) ?_
        refine A_iload 69 dX10_strikes_67 rfl rfl ?_
        refine A_iload 71 dX10_strikes_69 rfl rfl ?_
        refine A_icmp_le 79 74 dX10_strikes_71 (by decide) rfl (fun c71 => ?_) (fun c71 => ?_)
        · skip
          try simp only [bI_0, bI_n0, Classical.not_not, Bool.not_eq_false, Bool.true_and, Bool.and_true, decide_eq_true_eq, decide_eq_false_iff_not, dayC_1, dayC_21, dayC_221, dayC_222, inI_1, inI_2, inI_3, inI_5, inI_11, inI_16] at c71
          have n71 := c71
          replace c71 := Int32.not_lt.mpr c71
          refine A_iload 81 dX10_strikes_79 rfl rfl ?_
          refine A_istore 83 dX10_strikes_81 rfl (by decide) (by first | exact (ast_s (ast_s (ast_s (ast_1 rfl)))) | exact (ast_s (ast_s (ast_s ast_k)))) ?_
          first | refine A_iincN 86 dX10_strikes_83 rfl rfl (by decide) (by first | exact (ast_s (ast_s (ast_s (ast_s (ast_1 rfl))))) | exact (ast_s (ast_s (ast_s (ast_s ast_k))))) ?_ | refine A_iinc 86 (1) dX10_strikes_83 rfl rfl (by decide) (by decide) (by first | exact (ast_s (ast_s (ast_s (ast_s (ast_1 rfl))))) | exact (ast_s (ast_s (ast_s (ast_s ast_k))))) ?_
          refine A_goto 38 dX10_strikes_86 (by decide) ?_
          exact A_weak (ih n0 (Nat.lt_succ_self n0) (i + 1) _ g38 _ (by omega) ((foldN_s (msF x (x.2.1 p) (nI k)) (DN x (x.2.1 p &&& (tbI (nI k) ^^^ (-1)))) i).trans ((congrArg ((msF x (x.2.1 p) (nI k)) i) ee).trans (by first | with_reducible rfl | (simp only [c48, c71, n71, if_true, if_false, ite_true, ite_false, and_true, true_and, and_false, false_and, and_self, or_true, true_or, or_false, false_or, or_self, not_true_eq_false, not_false_eq_true, decide_true, decide_false, Bool.and_true, Bool.true_and, Bool.and_false, Bool.false_and, Bool.and_self, Bool.or_true, Bool.true_or, Bool.or_false, Bool.false_or, Bool.not_true, Bool.not_false, cond_true, cond_false, bI_t, bI_f, Bool.false_eq_true, Bool.true_eq_false, dayC_1, dayC_21, dayC_221, dayC_222, msF]; done) | (simp only [eq_true c48, c71, n71, if_true, if_false, ite_true, ite_false, and_true, true_and, and_false, false_and, and_self, or_true, true_or, or_false, false_or, or_self, not_true_eq_false, not_false_eq_true, decide_true, decide_false, Bool.and_true, Bool.true_and, Bool.and_false, Bool.false_and, Bool.and_self, Bool.or_true, Bool.true_or, Bool.or_false, Bool.false_or, Bool.not_true, Bool.not_false, cond_true, cond_false, bI_t, bI_f, Bool.false_eq_true, Bool.true_eq_false, dayC_1, dayC_21, dayC_221, dayC_222, msF]; done) | (with_reducible first | exact absurd c48 c71 | exact absurd c48 hy | exact absurd c48 hyb | exact absurd c71 c48 | exact absurd c71 hy | exact absurd c71 hyb | exact absurd hy c48 | exact absurd hy c71 | exact absurd hy hyb | exact absurd hyb c48 | exact absurd hyb c71 | exact absurd hyb hy | (rw [c48] at c71; cases c71) | (rw [c71] at c48; cases c48)) | (simp [*, msF]; done) | with_reducible_and_instances rfl))) (by first | exact hy | exact absurd c71 hy | (obtain ⟨m, hm, e⟩ := DN_nn x hx _; rw [e]; exact nI_pos (by omega))) O28 hf) (sub_s (sub_s (sub_s (sub_s (sub_s (sub_s (sub_n sub_nil)))))))
        · skip
          try simp only [bI_0, bI_n0, Classical.not_not, Bool.not_eq_false, Bool.true_and, Bool.and_true, decide_eq_true_eq, decide_eq_false_iff_not, dayC_1, dayC_21, dayC_221, dayC_222, inI_1, inI_2, inI_3, inI_5, inI_11, inI_16] at c71
          have n71 := c71
          replace c71 := Int32.not_le.mp c71
          refine A_iload 76 dX10_strikes_74 rfl rfl ?_
          refine A_goto 81 dX10_strikes_76 (by decide) ?_
          refine A_istore 83 dX10_strikes_81 rfl (by decide) (by first | exact (ast_s (ast_s (ast_s (ast_1 rfl)))) | exact (ast_s (ast_s (ast_s ast_k)))) ?_
          first | refine A_iincN 86 dX10_strikes_83 rfl rfl (by decide) (by first | exact (ast_s (ast_s (ast_s (ast_s (ast_1 rfl))))) | exact (ast_s (ast_s (ast_s (ast_s ast_k))))) ?_ | refine A_iinc 86 (1) dX10_strikes_83 rfl rfl (by decide) (by decide) (by first | exact (ast_s (ast_s (ast_s (ast_s (ast_1 rfl))))) | exact (ast_s (ast_s (ast_s (ast_s ast_k))))) ?_
          refine A_goto 38 dX10_strikes_86 (by decide) ?_
          exact A_weak (ih n0 (Nat.lt_succ_self n0) (i + 1) _ g38 _ (by omega) ((foldN_s (msF x (x.2.1 p) (nI k)) (DN x (x.2.1 p &&& (tbI (nI k) ^^^ (-1)))) i).trans ((congrArg ((msF x (x.2.1 p) (nI k)) i) ee).trans (by first | with_reducible rfl | (simp only [c48, c71, n71, if_true, if_false, ite_true, ite_false, and_true, true_and, and_false, false_and, and_self, or_true, true_or, or_false, false_or, or_self, not_true_eq_false, not_false_eq_true, decide_true, decide_false, Bool.and_true, Bool.true_and, Bool.and_false, Bool.false_and, Bool.and_self, Bool.or_true, Bool.true_or, Bool.or_false, Bool.false_or, Bool.not_true, Bool.not_false, cond_true, cond_false, bI_t, bI_f, Bool.false_eq_true, Bool.true_eq_false, dayC_1, dayC_21, dayC_221, dayC_222, msF]; done) | (simp only [eq_true c48, c71, n71, if_true, if_false, ite_true, ite_false, and_true, true_and, and_false, false_and, and_self, or_true, true_or, or_false, false_or, or_self, not_true_eq_false, not_false_eq_true, decide_true, decide_false, Bool.and_true, Bool.true_and, Bool.and_false, Bool.false_and, Bool.and_self, Bool.or_true, Bool.true_or, Bool.or_false, Bool.false_or, Bool.not_true, Bool.not_false, cond_true, cond_false, bI_t, bI_f, Bool.false_eq_true, Bool.true_eq_false, dayC_1, dayC_21, dayC_221, dayC_222, msF]; done) | (with_reducible first | exact absurd c48 c71 | exact absurd c48 hy | exact absurd c48 hyb | exact absurd c71 c48 | exact absurd c71 hy | exact absurd c71 hyb | exact absurd hy c48 | exact absurd hy c71 | exact absurd hy hyb | exact absurd hyb c48 | exact absurd hyb c71 | exact absurd hyb hy | (rw [c48] at c71; cases c71) | (rw [c71] at c48; cases c48)) | (simp [*, msF]; done) | with_reducible_and_instances rfl))) (by first | exact hy | exact absurd c71 hy | (obtain ⟨m, hm, e⟩ := DN_nn x hx _; rw [e]; exact nI_pos (by omega))) O28 hf) (sub_s (sub_s (sub_s (sub_s (sub_s (sub_s (sub_n sub_nil)))))))
  exact A_weak (L38 (8) (0) (_) h_1 (_) (by omega) (rfl) (by first | (obtain ⟨m, hm, e⟩ := DN_nn x hx _; rw [e]; exact nI_pos (by omega))) O28 hf) (sub_s (sub_s (sub_s (sub_s (sub_s (sub_s (sub_n sub_nil)))))))
set_option maxHeartbeats 4000000 in
set_option maxRecDepth 100000 in
theorem S_X10_guard (X : En) (l : Launch) {h : Hp} {x : PW} {c : RC} {z : RZ} (O28 : h 28 = some (rB x (-1) c z)) (hW : WOK x)  {p v : Int32} : Ct X l mX10_guard [aR 28 0, aI p, aI v] h (QI (fun vr h2 => (rV (wP01 x p v) (aGuard x p v)) = vr ∧ ∃ (z1 : RZ), h2 (28) = some (rB x (-1) (rS (wP01 x p v) c.1, c.2) z1) ∧ ∀ i, i ≠ 28 → h2 i = h i)) := by
  have hx := hW.1
  have hp := hW.2.1
  have h10 := hx.1
  have hf : ∀ i, i ≠ 28 → h i = h i := fun _ _ => rfl
  refine Ct.intro [some (aR 28 0), some (aI p), some (aI v), none, none, none, none, none] (by decide +kernel) rfl (Nat.le_of_ble_eq_true rfl) ?_
  refine A_aload_n 1 dX10_guard_0 rfl rfl rfl ?_
  refine A_iconst 2 (0) dX10_guard_1 rfl (by decide) ?_
  refine P_X10_9 5 dX10_guard_2 rfl fw_X10_78 O28 (fun h_1 nh_1 eh_1 => ?_)
  replace O28 := nh_1
  replace hf : ∀ i, i ≠ 28 → h_1 i = h i := fun i g0 => (eh_1 i g0).trans (hf i g0)
  try dsimp only at O28
  refine A_joinI 23 (fun vj => vj = wP01 x p v) (fun j23 => ?_) (fun v23 e23 => ?_)
  · skip
    refine A_aload_n 6 dX10_guard_5 rfl rfl rfl ?_
    refine A_iload_n 7 dX10_guard_6 rfl rfl rfl ?_
    refine A_callVI 10 (S_X10_isOne X l (by first | assumption | decide | omega | exact Ne.symm (by assumption)) (by first | assumption | decide | omega | exact Ne.symm (by assumption))) dX10_guard_7 rfl kX10_isOne lk_X10_160 rfl O28 (by decide) rfl (Nat.le_of_ble_eq_true rfl) (fun v_2 h_2 qh_2 => ?_)
    obtain ⟨rfl, rfl⟩ := qh_2
    refine A_if_eq 22 13 dX10_guard_10 (by decide) rfl (fun c10 => ?_) (fun c10 => ?_)
    · skip
      try simp only [bI_0, bI_n0, Classical.not_not, Bool.not_eq_false, Bool.true_and, Bool.and_true, decide_eq_true_eq, decide_eq_false_iff_not, dayC_1, dayC_21, dayC_221, dayC_222, inI_1, inI_2, inI_3, inI_5, inI_11, inI_16] at c10
      refine A_iconst 23 (-1) dX10_guard_22 rfl (by decide) ?_
      exact j23 _ (by first | (simp only [c10, if_true, if_false, ite_true, ite_false, and_true, true_and, and_false, false_and, and_self, or_true, true_or, or_false, false_or, or_self, not_true_eq_false, not_false_eq_true, decide_true, decide_false, Bool.and_true, Bool.true_and, Bool.and_false, Bool.false_and, Bool.and_self, Bool.or_true, Bool.true_or, Bool.or_false, Bool.false_or, Bool.not_true, Bool.not_false, cond_true, cond_false, bI_t, bI_f, Bool.false_eq_true, Bool.true_eq_false, dayC_1, dayC_21, dayC_221, dayC_222, w01, wP, wPL, wP01, wL01, wRow, w01R, wAB, wNum, isP, isL, wrB_N, wrB_0, wrB_1]; done) | (simp only [c10, if_true, if_false, ite_true, ite_false, and_true, true_and, and_false, false_and, and_self, or_true, true_or, or_false, false_or, or_self, not_true_eq_false, not_false_eq_true, decide_true, decide_false, Bool.and_true, Bool.true_and, Bool.and_false, Bool.false_and, Bool.and_self, Bool.or_true, Bool.true_or, Bool.or_false, Bool.false_or, Bool.not_true, Bool.not_false, cond_true, cond_false, bI_t, bI_f, Bool.false_eq_true, Bool.true_eq_false, dayC_1, dayC_21, dayC_221, dayC_222, wrN, w01, wP, wPL, wP01, wL01, wRow, w01R, wAB, wNum, isP, isL, wrB_N, wrB_0, wrB_1]; done) | (simp only [c10, if_true, if_false, ite_true, ite_false, and_true, true_and, and_false, false_and, and_self, or_true, true_or, or_false, false_or, or_self, not_true_eq_false, not_false_eq_true, decide_true, decide_false, Bool.and_true, Bool.true_and, Bool.and_false, Bool.false_and, Bool.and_self, Bool.or_true, Bool.true_or, Bool.or_false, Bool.false_or, Bool.not_true, Bool.not_false, cond_true, cond_false, bI_t, bI_f, Bool.false_eq_true, Bool.true_eq_false, dayC_1, dayC_21, dayC_221, dayC_222, wrN, w01, wP, wPL, wP01, wL01, wRow, w01R, wAB, wNum, isP, isL, wrB_N, wrB_0, wrB_1]; rfl))
    · skip
      try simp only [bI_0, bI_n0, Classical.not_not, Bool.not_eq_false, Bool.true_and, Bool.and_true, decide_eq_true_eq, decide_eq_false_iff_not, dayC_1, dayC_21, dayC_221, dayC_222, inI_1, inI_2, inI_3, inI_5, inI_11, inI_16] at c10
      refine A_iconst 14 (0) dX10_guard_13 rfl (by decide) ?_
      refine A_iload_n 15 dX10_guard_14 rfl rfl rfl ?_
      refine A_iconst 16 (1) dX10_guard_15 rfl (by decide) ?_
      refine A_callSI 19 (S_X10_wrongBit X l) dX10_guard_16 rfl kX10_wrongBit lk_X10_225 rfl (by decide) rfl (Nat.le_of_ble_eq_true rfl) (fun v_3 h_3 qh_3 => ?_)
      obtain ⟨rfl, rfl⟩ := qh_3
      refine A_goto 23 dX10_guard_19 (by decide) ?_
      exact j23 _ (by first | (simp only [c10, if_true, if_false, ite_true, ite_false, and_true, true_and, and_false, false_and, and_self, or_true, true_or, or_false, false_or, or_self, not_true_eq_false, not_false_eq_true, decide_true, decide_false, Bool.and_true, Bool.true_and, Bool.and_false, Bool.false_and, Bool.and_self, Bool.or_true, Bool.true_or, Bool.or_false, Bool.false_or, Bool.not_true, Bool.not_false, cond_true, cond_false, bI_t, bI_f, Bool.false_eq_true, Bool.true_eq_false, dayC_1, dayC_21, dayC_221, dayC_222, w01, wP, wPL, wP01, wL01, wRow, w01R, wAB, wNum, isP, isL, wrB_N, wrB_0, wrB_1]; done) | (simp only [c10, if_true, if_false, ite_true, ite_false, and_true, true_and, and_false, false_and, and_self, or_true, true_or, or_false, false_or, or_self, not_true_eq_false, not_false_eq_true, decide_true, decide_false, Bool.and_true, Bool.true_and, Bool.and_false, Bool.false_and, Bool.and_self, Bool.or_true, Bool.true_or, Bool.or_false, Bool.false_or, Bool.not_true, Bool.not_false, cond_true, cond_false, bI_t, bI_f, Bool.false_eq_true, Bool.true_eq_false, dayC_1, dayC_21, dayC_221, dayC_222, wrN, w01, wP, wPL, wP01, wL01, wRow, w01R, wAB, wNum, isP, isL, wrB_N, wrB_0, wrB_1]; done) | (simp only [c10, if_true, if_false, ite_true, ite_false, and_true, true_and, and_false, false_and, and_self, or_true, true_or, or_false, false_or, or_self, not_true_eq_false, not_false_eq_true, decide_true, decide_false, Bool.and_true, Bool.true_and, Bool.and_false, Bool.false_and, Bool.and_self, Bool.or_true, Bool.true_or, Bool.or_false, Bool.false_or, Bool.not_true, Bool.not_false, cond_true, cond_false, bI_t, bI_f, Bool.false_eq_true, Bool.true_eq_false, dayC_1, dayC_21, dayC_221, dayC_222, wrN, w01, wP, wPL, wP01, wL01, wRow, w01R, wAB, wNum, isP, isL, wrB_N, wrB_0, wrB_1]; rfl))
  subst e23
  refine A_istore_n 24 dX10_guard_23 rfl rfl (by decide) (by first | exact (ast_s (ast_s (ast_1 rfl))) | exact (ast_s (ast_s ast_k))) ?_
  refine A_iload_n 25 dX10_guard_24 rfl rfl rfl ?_
  refine A_if_ge 34 28 dX10_guard_25 (by decide) rfl (fun c25 => ?_) (fun c25 => ?_)
  · skip
    try simp only [bI_0, bI_n0, Classical.not_not, Bool.not_eq_false, Bool.true_and, Bool.and_true, decide_eq_true_eq, decide_eq_false_iff_not, dayC_1, dayC_21, dayC_221, dayC_222, inI_1, inI_2, inI_3, inI_5, inI_11, inI_16] at c25
    have n25 := c25
    replace c25 := Int32.not_lt.mpr c25
    have hw0 : wP01 x p v = 0 := cz_pos wP01_cz c25
    obtain ⟨f1, f2⟩ := wP01_0 hw0
    obtain ⟨k_p, rfl, hk_p⟩ := inN_ex f1 (by omega)
    have cl_p : (nI k_p).toNatClampNeg = k_p := nI_clamp (by omega)
    have hk6_p : k_p < 6 := by omega
    refine A_bipush 36 (-9) dX10_guard_34 rfl (by decide) ?_
    refine A_istore 38 dX10_guard_36 rfl (by decide) (by first | exact (ast_s (ast_s (ast_s (ast_1 rfl)))) | exact (ast_s (ast_s (ast_s ast_k)))) ?_
    refine A_bipush 40 (99) dX10_guard_38 rfl (by decide) ?_
    refine A_istore 42 dX10_guard_40 rfl (by decide) (by first | exact (ast_s (ast_s (ast_s (ast_s (ast_1 rfl))))) | exact (ast_s (ast_s (ast_s (ast_s ast_k))))) ?_
    refine A_iconst 43 (0) dX10_guard_42 rfl (by decide) ?_
    refine A_istore 45 dX10_guard_43 rfl (by decide) (by first | exact (ast_s (ast_s (ast_s (ast_s (ast_s (ast_1 rfl)))))) | exact (ast_s (ast_s (ast_s (ast_s (ast_s ast_k)))))) ?_
    have L45 : ∀ (nq i : Nat) (m b : Int32) (g45 : Hp) (z2 : RZ), (nq + i = 9) → (foldN (gdF x (x.2.1 k_p)) ((99, -9)) i = (m, b)) → (g45 28 = some (rB x (-1) c z2)) → (∀ i, i ≠ 28 → g45 i = h i) → Av X l mX10_guard 45 [some (aR 28 0), some (aI (nI (k_p))), some (aI (v)), none, some (aI (b)), some (aI (m)), some (aI (nI (i))), none] [] g45 (QI (fun vr h2 => (rV (wP01 x (nI k_p) v) (aGuard x (nI k_p) v)) = vr ∧ ∃ (z1 : RZ), h2 (28) = some (rB x (-1) (rS (wP01 x (nI k_p) v) c.1, c.2) z1) ∧ ∀ i, i ≠ 28 → h2 i = h i)) := by
      intro nq
      induction nq using Nat.strongRecOn with
      | _ nq ih =>
      intro i m b g45 z2 en ee O28 hf
      refine A_iload 47 dX10_guard_45 rfl rfl ?_
      refine A_bipush 49 (8) dX10_guard_47 rfl (by decide) ?_
      refine A_icmp_gt 120 52 dX10_guard_49 (by decide) rfl (fun c49 => ?_) (fun c49 => ?_)
      · skip
        obtain rfl := (up_gt_T (N := 9) c49 rfl (by omega) (by omega) (by omega)).symm
        refine A_iload_n 121 dX10_guard_120 rfl rfl rfl ?_
        refine A_if_ne 129 124 dX10_guard_121 (by decide) rfl (fun c121 => ?_) (fun c121 => ?_)
        · skip
          try simp only [bI_0, bI_n0, Classical.not_not, Bool.not_eq_false, Bool.true_and, Bool.and_true, decide_eq_true_eq, decide_eq_false_iff_not, dayC_1, dayC_21, dayC_221, dayC_222, inI_1, inI_2, inI_3, inI_5, inI_11, inI_16] at c121
          refine A_iload 131 dX10_guard_129 rfl rfl ?_
          refine A_iret dX10_guard_131 rfl ⟨_, rfl, (by rw [hw0, rV_0]; unfold aGuard pk; rw [cl_p, ← gd_eq hx, ee]; first | rw [if_pos c121] | rw [if_neg c121]), _, (by rw [hw0, rS_0]; exact O28), hf⟩
        · skip
          try simp only [bI_0, bI_n0, Classical.not_not, Bool.not_eq_false, Bool.true_and, Bool.and_true, decide_eq_true_eq, decide_eq_false_iff_not, dayC_1, dayC_21, dayC_221, dayC_222, inI_1, inI_2, inI_3, inI_5, inI_11, inI_16] at c121
          refine A_iload 126 dX10_guard_124 rfl rfl ?_
          refine A_goto 131 dX10_guard_126 (by decide) ?_
          refine A_iret dX10_guard_131 rfl ⟨_, rfl, (by rw [hw0, rV_0]; unfold aGuard pk; rw [cl_p, ← gd_eq hx, ee]; first | rw [if_pos c121] | rw [if_neg c121]), _, (by rw [hw0, rS_0]; exact O28), hf⟩
      · skip
        have hi := up_gt_F (N := 9) c49 rfl (by omega) (by omega) (by omega)
        obtain ⟨n0, rfl⟩ : ∃ q, nq = q + 1 := ⟨nq - 1, by omega⟩
        refine A_iload 54 dX10_guard_52 rfl rfl ?_
        refine A_bipush 56 (8) dX10_guard_54 rfl (by decide) ?_
        refine A_icmp_eq 73 59 dX10_guard_56 (by decide) rfl (fun c56 => ?_) (fun c56 => ?_)
        · skip
          try simp only [bI_0, bI_n0, Classical.not_not, Bool.not_eq_false, Bool.true_and, Bool.and_true, decide_eq_true_eq, decide_eq_false_iff_not, dayC_1, dayC_21, dayC_221, dayC_222, inI_1, inI_2, inI_3, inI_5, inI_11, inI_16] at c56
          have cl_8 : ¬ i < 8 := by
            have q := (ninj (a := i) (b := 8) (by omega) (by decide)).mp c56
            omega
          refine A_aload_n 74 dX10_guard_73 rfl rfl rfl ?_
          refine A_iload_n 75 dX10_guard_74 rfl rfl rfl ?_
          refine A_iload 77 dX10_guard_75 rfl rfl ?_
          refine A_callVI 80 (S_X10_strikes X l (by first | assumption | decide | omega | exact Ne.symm (by assumption)) (by first | assumption | decide | omega | exact Ne.symm (by assumption)) (by first | assumption | decide | omega | exact Ne.symm (by assumption)) (by first | assumption | decide | omega | exact Ne.symm (by assumption))) dX10_guard_77 rfl kX10_strikes lk_X10_267 rfl O28 (by decide) rfl (Nat.le_of_ble_eq_true rfl) (fun v_4 h_4 qh_4 => ?_)
          obtain ⟨rfl, z1_4, n0h_4, eh_4⟩ := qh_4
          replace O28 := n0h_4
          replace hf : ∀ i, i ≠ 28 → h_4 i = h i := fun i g0 => (eh_4 i g0).trans (hf i g0)
          refine A_istore 82 dX10_guard_80 rfl (by decide) (by first | exact (ast_s (ast_s (ast_s (ast_s (ast_s (ast_s (ast_1 rfl))))))) | exact (ast_s (ast_s (ast_s (ast_s (ast_s (ast_s ast_k))))))) ?_
          refine A_iload 84 dX10_guard_82 rfl rfl ?_
          refine A_iload 86 dX10_guard_84 rfl rfl ?_
          refine A_icmp_ge 94 89 dX10_guard_86 (by decide) rfl (fun c86 => ?_) (fun c86 => ?_)
          · skip
            try simp only [bI_0, bI_n0, Classical.not_not, Bool.not_eq_false, Bool.true_and, Bool.and_true, decide_eq_true_eq, decide_eq_false_iff_not, dayC_1, dayC_21, dayC_221, dayC_222, inI_1, inI_2, inI_3, inI_5, inI_11, inI_16] at c86
            have n86 := c86
            replace c86 := Int32.not_lt.mpr c86
            refine A_iload 96 dX10_guard_94 rfl rfl ?_
            refine A_istore 98 dX10_guard_96 rfl (by decide) (by first | exact (ast_s (ast_s (ast_s (ast_1 rfl)))) | exact (ast_s (ast_s (ast_s ast_k)))) ?_
            refine A_iload 100 dX10_guard_98 rfl rfl ?_
            refine A_iload 102 dX10_guard_100 rfl rfl ?_
            refine A_icmp_ge 110 105 dX10_guard_102 (by decide) rfl (fun c102 => ?_) (fun c102 => ?_)
            · skip
              try simp only [bI_0, bI_n0, Classical.not_not, Bool.not_eq_false, Bool.true_and, Bool.and_true, decide_eq_true_eq, decide_eq_false_iff_not, dayC_1, dayC_21, dayC_221, dayC_222, inI_1, inI_2, inI_3, inI_5, inI_11, inI_16] at c102
              have n102 := c102
              replace c102 := Int32.not_lt.mpr c102
              refine A_iload 112 dX10_guard_110 rfl rfl ?_
              refine A_istore 114 dX10_guard_112 rfl (by decide) (by first | exact (ast_s (ast_s (ast_s (ast_s (ast_1 rfl))))) | exact (ast_s (ast_s (ast_s (ast_s ast_k))))) ?_
              first | refine A_iincN 117 dX10_guard_114 rfl rfl (by decide) (by first | exact (ast_s (ast_s (ast_s (ast_s (ast_s (ast_1 rfl)))))) | exact (ast_s (ast_s (ast_s (ast_s (ast_s ast_k)))))) ?_ | refine A_iinc 117 (1) dX10_guard_114 rfl rfl (by decide) (by decide) (by first | exact (ast_s (ast_s (ast_s (ast_s (ast_s (ast_1 rfl)))))) | exact (ast_s (ast_s (ast_s (ast_s (ast_s ast_k)))))) ?_
              refine A_goto 45 dX10_guard_117 (by decide) ?_
              exact A_weak (ih n0 (Nat.lt_succ_self n0) (i + 1) _ _ h_4 _ (by omega) ((foldN_s (gdF x (x.2.1 k_p)) ((99, -9)) i).trans ((congrArg ((gdF x (x.2.1 k_p)) i) ee).trans (by first | with_reducible rfl | (simp only [c25, n25, cl_p, c56, cl_8, c86, n86, c102, n102, if_true, if_false, ite_true, ite_false, and_true, true_and, and_false, false_and, and_self, or_true, true_or, or_false, false_or, or_self, not_true_eq_false, not_false_eq_true, decide_true, decide_false, Bool.and_true, Bool.true_and, Bool.and_false, Bool.false_and, Bool.and_self, Bool.or_true, Bool.true_or, Bool.or_false, Bool.false_or, Bool.not_true, Bool.not_false, cond_true, cond_false, bI_t, bI_f, Bool.false_eq_true, Bool.true_eq_false, dayC_1, dayC_21, dayC_221, dayC_222, gdF]; done) | (simp only [c25, n25, cl_p, eq_true c56, cl_8, c86, n86, c102, n102, if_true, if_false, ite_true, ite_false, and_true, true_and, and_false, false_and, and_self, or_true, true_or, or_false, false_or, or_self, not_true_eq_false, not_false_eq_true, decide_true, decide_false, Bool.and_true, Bool.true_and, Bool.and_false, Bool.false_and, Bool.and_self, Bool.or_true, Bool.true_or, Bool.or_false, Bool.false_or, Bool.not_true, Bool.not_false, cond_true, cond_false, bI_t, bI_f, Bool.false_eq_true, Bool.true_eq_false, dayC_1, dayC_21, dayC_221, dayC_222, gdF]; done) | (with_reducible first | exact absurd c25 c56 | exact absurd c25 c86 | exact absurd c25 c102 | exact absurd c25 hy | exact absurd c25 hyb | exact absurd c56 c25 | exact absurd c56 c86 | exact absurd c56 c102 | exact absurd c56 hy | exact absurd c56 hyb | exact absurd c86 c25 | exact absurd c86 c56 | exact absurd c86 c102 | exact absurd c86 hy | exact absurd c86 hyb | exact absurd c102 c25 | exact absurd c102 c56 | exact absurd c102 c86 | exact absurd c102 hy | exact absurd c102 hyb | exact absurd hy c25 | exact absurd hy c56 | exact absurd hy c86 | exact absurd hy c102 | exact absurd hy hyb | exact absurd hyb c25 | exact absurd hyb c56 | exact absurd hyb c86 | exact absurd hyb c102 | exact absurd hyb hy | (rw [c25] at c56; cases c56) | (rw [c25] at c86; cases c86) | (rw [c25] at c102; cases c102) | (rw [c56] at c25; cases c25) | (rw [c56] at c86; cases c86) | (rw [c56] at c102; cases c102) | (rw [c86] at c25; cases c25) | (rw [c86] at c56; cases c56) | (rw [c86] at c102; cases c102) | (rw [c102] at c25; cases c25) | (rw [c102] at c56; cases c56) | (rw [c102] at c86; cases c86)) | (simp [*, gdF]; done) | with_reducible_and_instances rfl))) O28 hf) (sub_s (sub_s (sub_s (sub_n (sub_s (sub_s (sub_s (sub_n sub_nil))))))))
            · skip
              try simp only [bI_0, bI_n0, Classical.not_not, Bool.not_eq_false, Bool.true_and, Bool.and_true, decide_eq_true_eq, decide_eq_false_iff_not, dayC_1, dayC_21, dayC_221, dayC_222, inI_1, inI_2, inI_3, inI_5, inI_11, inI_16] at c102
              have n102 := c102
              replace c102 := Int32.not_le.mp c102
              refine A_iload 107 dX10_guard_105 rfl rfl ?_
              refine A_goto 112 dX10_guard_107 (by decide) ?_
              refine A_istore 114 dX10_guard_112 rfl (by decide) (by first | exact (ast_s (ast_s (ast_s (ast_s (ast_1 rfl))))) | exact (ast_s (ast_s (ast_s (ast_s ast_k))))) ?_
              first | refine A_iincN 117 dX10_guard_114 rfl rfl (by decide) (by first | exact (ast_s (ast_s (ast_s (ast_s (ast_s (ast_1 rfl)))))) | exact (ast_s (ast_s (ast_s (ast_s (ast_s ast_k)))))) ?_ | refine A_iinc 117 (1) dX10_guard_114 rfl rfl (by decide) (by decide) (by first | exact (ast_s (ast_s (ast_s (ast_s (ast_s (ast_1 rfl)))))) | exact (ast_s (ast_s (ast_s (ast_s (ast_s ast_k)))))) ?_
              refine A_goto 45 dX10_guard_117 (by decide) ?_
              exact A_weak (ih n0 (Nat.lt_succ_self n0) (i + 1) _ _ h_4 _ (by omega) ((foldN_s (gdF x (x.2.1 k_p)) ((99, -9)) i).trans ((congrArg ((gdF x (x.2.1 k_p)) i) ee).trans (by first | with_reducible rfl | (simp only [c25, n25, cl_p, c56, cl_8, c86, n86, c102, n102, if_true, if_false, ite_true, ite_false, and_true, true_and, and_false, false_and, and_self, or_true, true_or, or_false, false_or, or_self, not_true_eq_false, not_false_eq_true, decide_true, decide_false, Bool.and_true, Bool.true_and, Bool.and_false, Bool.false_and, Bool.and_self, Bool.or_true, Bool.true_or, Bool.or_false, Bool.false_or, Bool.not_true, Bool.not_false, cond_true, cond_false, bI_t, bI_f, Bool.false_eq_true, Bool.true_eq_false, dayC_1, dayC_21, dayC_221, dayC_222, gdF]; done) | (simp only [c25, n25, cl_p, eq_true c56, cl_8, c86, n86, c102, n102, if_true, if_false, ite_true, ite_false, and_true, true_and, and_false, false_and, and_self, or_true, true_or, or_false, false_or, or_self, not_true_eq_false, not_false_eq_true, decide_true, decide_false, Bool.and_true, Bool.true_and, Bool.and_false, Bool.false_and, Bool.and_self, Bool.or_true, Bool.true_or, Bool.or_false, Bool.false_or, Bool.not_true, Bool.not_false, cond_true, cond_false, bI_t, bI_f, Bool.false_eq_true, Bool.true_eq_false, dayC_1, dayC_21, dayC_221, dayC_222, gdF]; done) | (with_reducible first | exact absurd c25 c56 | exact absurd c25 c86 | exact absurd c25 c102 | exact absurd c25 hy | exact absurd c25 hyb | exact absurd c56 c25 | exact absurd c56 c86 | exact absurd c56 c102 | exact absurd c56 hy | exact absurd c56 hyb | exact absurd c86 c25 | exact absurd c86 c56 | exact absurd c86 c102 | exact absurd c86 hy | exact absurd c86 hyb | exact absurd c102 c25 | exact absurd c102 c56 | exact absurd c102 c86 | exact absurd c102 hy | exact absurd c102 hyb | exact absurd hy c25 | exact absurd hy c56 | exact absurd hy c86 | exact absurd hy c102 | exact absurd hy hyb | exact absurd hyb c25 | exact absurd hyb c56 | exact absurd hyb c86 | exact absurd hyb c102 | exact absurd hyb hy | (rw [c25] at c56; cases c56) | (rw [c25] at c86; cases c86) | (rw [c25] at c102; cases c102) | (rw [c56] at c25; cases c25) | (rw [c56] at c86; cases c86) | (rw [c56] at c102; cases c102) | (rw [c86] at c25; cases c25) | (rw [c86] at c56; cases c56) | (rw [c86] at c102; cases c102) | (rw [c102] at c25; cases c25) | (rw [c102] at c56; cases c56) | (rw [c102] at c86; cases c86)) | (simp [*, gdF]; done) | with_reducible_and_instances rfl))) O28 hf) (sub_s (sub_s (sub_s (sub_n (sub_s (sub_s (sub_s (sub_n sub_nil))))))))
          · skip
            try simp only [bI_0, bI_n0, Classical.not_not, Bool.not_eq_false, Bool.true_and, Bool.and_true, decide_eq_true_eq, decide_eq_false_iff_not, dayC_1, dayC_21, dayC_221, dayC_222, inI_1, inI_2, inI_3, inI_5, inI_11, inI_16] at c86
            have n86 := c86
            replace c86 := Int32.not_le.mp c86
            refine A_iload 91 dX10_guard_89 rfl rfl ?_
            refine A_goto 96 dX10_guard_91 (by decide) ?_
            refine A_istore 98 dX10_guard_96 rfl (by decide) (by first | exact (ast_s (ast_s (ast_s (ast_1 rfl)))) | exact (ast_s (ast_s (ast_s ast_k)))) ?_
            refine A_iload 100 dX10_guard_98 rfl rfl ?_
            refine A_iload 102 dX10_guard_100 rfl rfl ?_
            refine A_icmp_ge 110 105 dX10_guard_102 (by decide) rfl (fun c102 => ?_) (fun c102 => ?_)
            · skip
              try simp only [bI_0, bI_n0, Classical.not_not, Bool.not_eq_false, Bool.true_and, Bool.and_true, decide_eq_true_eq, decide_eq_false_iff_not, dayC_1, dayC_21, dayC_221, dayC_222, inI_1, inI_2, inI_3, inI_5, inI_11, inI_16] at c102
              have n102 := c102
              replace c102 := Int32.not_lt.mpr c102
              refine A_iload 112 dX10_guard_110 rfl rfl ?_
              refine A_istore 114 dX10_guard_112 rfl (by decide) (by first | exact (ast_s (ast_s (ast_s (ast_s (ast_1 rfl))))) | exact (ast_s (ast_s (ast_s (ast_s ast_k))))) ?_
              first | refine A_iincN 117 dX10_guard_114 rfl rfl (by decide) (by first | exact (ast_s (ast_s (ast_s (ast_s (ast_s (ast_1 rfl)))))) | exact (ast_s (ast_s (ast_s (ast_s (ast_s ast_k)))))) ?_ | refine A_iinc 117 (1) dX10_guard_114 rfl rfl (by decide) (by decide) (by first | exact (ast_s (ast_s (ast_s (ast_s (ast_s (ast_1 rfl)))))) | exact (ast_s (ast_s (ast_s (ast_s (ast_s ast_k)))))) ?_
              refine A_goto 45 dX10_guard_117 (by decide) ?_
              exact A_weak (ih n0 (Nat.lt_succ_self n0) (i + 1) _ _ h_4 _ (by omega) ((foldN_s (gdF x (x.2.1 k_p)) ((99, -9)) i).trans ((congrArg ((gdF x (x.2.1 k_p)) i) ee).trans (by first | with_reducible rfl | (simp only [c25, n25, cl_p, c56, cl_8, c86, n86, c102, n102, if_true, if_false, ite_true, ite_false, and_true, true_and, and_false, false_and, and_self, or_true, true_or, or_false, false_or, or_self, not_true_eq_false, not_false_eq_true, decide_true, decide_false, Bool.and_true, Bool.true_and, Bool.and_false, Bool.false_and, Bool.and_self, Bool.or_true, Bool.true_or, Bool.or_false, Bool.false_or, Bool.not_true, Bool.not_false, cond_true, cond_false, bI_t, bI_f, Bool.false_eq_true, Bool.true_eq_false, dayC_1, dayC_21, dayC_221, dayC_222, gdF]; done) | (simp only [c25, n25, cl_p, eq_true c56, cl_8, c86, n86, c102, n102, if_true, if_false, ite_true, ite_false, and_true, true_and, and_false, false_and, and_self, or_true, true_or, or_false, false_or, or_self, not_true_eq_false, not_false_eq_true, decide_true, decide_false, Bool.and_true, Bool.true_and, Bool.and_false, Bool.false_and, Bool.and_self, Bool.or_true, Bool.true_or, Bool.or_false, Bool.false_or, Bool.not_true, Bool.not_false, cond_true, cond_false, bI_t, bI_f, Bool.false_eq_true, Bool.true_eq_false, dayC_1, dayC_21, dayC_221, dayC_222, gdF]; done) | (with_reducible first | exact absurd c25 c56 | exact absurd c25 c86 | exact absurd c25 c102 | exact absurd c25 hy | exact absurd c25 hyb | exact absurd c56 c25 | exact absurd c56 c86 | exact absurd c56 c102 | exact absurd c56 hy | exact absurd c56 hyb | exact absurd c86 c25 | exact absurd c86 c56 | exact absurd c86 c102 | exact absurd c86 hy | exact absurd c86 hyb | exact absurd c102 c25 | exact absurd c102 c56 | exact absurd c102 c86 | exact absurd c102 hy | exact absurd c102 hyb | exact absurd hy c25 | exact absurd hy c56 | exact absurd hy c86 | exact absurd hy c102 | exact absurd hy hyb | exact absurd hyb c25 | exact absurd hyb c56 | exact absurd hyb c86 | exact absurd hyb c102 | exact absurd hyb hy | (rw [c25] at c56; cases c56) | (rw [c25] at c86; cases c86) | (rw [c25] at c102; cases c102) | (rw [c56] at c25; cases c25) | (rw [c56] at c86; cases c86) | (rw [c56] at c102; cases c102) | (rw [c86] at c25; cases c25) | (rw [c86] at c56; cases c56) | (rw [c86] at c102; cases c102) | (rw [c102] at c25; cases c25) | (rw [c102] at c56; cases c56) | (rw [c102] at c86; cases c86)) | (simp [*, gdF]; done) | with_reducible_and_instances rfl))) O28 hf) (sub_s (sub_s (sub_s (sub_n (sub_s (sub_s (sub_s (sub_n sub_nil))))))))
            · skip
              try simp only [bI_0, bI_n0, Classical.not_not, Bool.not_eq_false, Bool.true_and, Bool.and_true, decide_eq_true_eq, decide_eq_false_iff_not, dayC_1, dayC_21, dayC_221, dayC_222, inI_1, inI_2, inI_3, inI_5, inI_11, inI_16] at c102
              have n102 := c102
              replace c102 := Int32.not_le.mp c102
              refine A_iload 107 dX10_guard_105 rfl rfl ?_
              refine A_goto 112 dX10_guard_107 (by decide) ?_
              refine A_istore 114 dX10_guard_112 rfl (by decide) (by first | exact (ast_s (ast_s (ast_s (ast_s (ast_1 rfl))))) | exact (ast_s (ast_s (ast_s (ast_s ast_k))))) ?_
              first | refine A_iincN 117 dX10_guard_114 rfl rfl (by decide) (by first | exact (ast_s (ast_s (ast_s (ast_s (ast_s (ast_1 rfl)))))) | exact (ast_s (ast_s (ast_s (ast_s (ast_s ast_k)))))) ?_ | refine A_iinc 117 (1) dX10_guard_114 rfl rfl (by decide) (by decide) (by first | exact (ast_s (ast_s (ast_s (ast_s (ast_s (ast_1 rfl)))))) | exact (ast_s (ast_s (ast_s (ast_s (ast_s ast_k)))))) ?_
              refine A_goto 45 dX10_guard_117 (by decide) ?_
              exact A_weak (ih n0 (Nat.lt_succ_self n0) (i + 1) _ _ h_4 _ (by omega) ((foldN_s (gdF x (x.2.1 k_p)) ((99, -9)) i).trans ((congrArg ((gdF x (x.2.1 k_p)) i) ee).trans (by first | with_reducible rfl | (simp only [c25, n25, cl_p, c56, cl_8, c86, n86, c102, n102, if_true, if_false, ite_true, ite_false, and_true, true_and, and_false, false_and, and_self, or_true, true_or, or_false, false_or, or_self, not_true_eq_false, not_false_eq_true, decide_true, decide_false, Bool.and_true, Bool.true_and, Bool.and_false, Bool.false_and, Bool.and_self, Bool.or_true, Bool.true_or, Bool.or_false, Bool.false_or, Bool.not_true, Bool.not_false, cond_true, cond_false, bI_t, bI_f, Bool.false_eq_true, Bool.true_eq_false, dayC_1, dayC_21, dayC_221, dayC_222, gdF]; done) | (simp only [c25, n25, cl_p, eq_true c56, cl_8, c86, n86, c102, n102, if_true, if_false, ite_true, ite_false, and_true, true_and, and_false, false_and, and_self, or_true, true_or, or_false, false_or, or_self, not_true_eq_false, not_false_eq_true, decide_true, decide_false, Bool.and_true, Bool.true_and, Bool.and_false, Bool.false_and, Bool.and_self, Bool.or_true, Bool.true_or, Bool.or_false, Bool.false_or, Bool.not_true, Bool.not_false, cond_true, cond_false, bI_t, bI_f, Bool.false_eq_true, Bool.true_eq_false, dayC_1, dayC_21, dayC_221, dayC_222, gdF]; done) | (with_reducible first | exact absurd c25 c56 | exact absurd c25 c86 | exact absurd c25 c102 | exact absurd c25 hy | exact absurd c25 hyb | exact absurd c56 c25 | exact absurd c56 c86 | exact absurd c56 c102 | exact absurd c56 hy | exact absurd c56 hyb | exact absurd c86 c25 | exact absurd c86 c56 | exact absurd c86 c102 | exact absurd c86 hy | exact absurd c86 hyb | exact absurd c102 c25 | exact absurd c102 c56 | exact absurd c102 c86 | exact absurd c102 hy | exact absurd c102 hyb | exact absurd hy c25 | exact absurd hy c56 | exact absurd hy c86 | exact absurd hy c102 | exact absurd hy hyb | exact absurd hyb c25 | exact absurd hyb c56 | exact absurd hyb c86 | exact absurd hyb c102 | exact absurd hyb hy | (rw [c25] at c56; cases c56) | (rw [c25] at c86; cases c86) | (rw [c25] at c102; cases c102) | (rw [c56] at c25; cases c25) | (rw [c56] at c86; cases c86) | (rw [c56] at c102; cases c102) | (rw [c86] at c25; cases c25) | (rw [c86] at c56; cases c56) | (rw [c86] at c102; cases c102) | (rw [c102] at c25; cases c25) | (rw [c102] at c56; cases c56) | (rw [c102] at c86; cases c86)) | (simp [*, gdF]; done) | with_reducible_and_instances rfl))) O28 hf) (sub_s (sub_s (sub_s (sub_n (sub_s (sub_s (sub_s (sub_n sub_nil))))))))
        · skip
          try simp only [bI_0, bI_n0, Classical.not_not, Bool.not_eq_false, Bool.true_and, Bool.and_true, decide_eq_true_eq, decide_eq_false_iff_not, dayC_1, dayC_21, dayC_221, dayC_222, inI_1, inI_2, inI_3, inI_5, inI_11, inI_16] at c56
          have cl_8 : i < 8 := by
            have q := mt (ninj (a := i) (b := 8) (by omega) (by decide)).mpr c56
            omega
          refine A_aload_n 60 dX10_guard_59 rfl rfl rfl ?_
          refine A_getfield 63 dX10_guard_60 rfl f_X10_22 O28 rfl ?_
          refine A_iload_n 64 dX10_guard_63 rfl rfl rfl ?_
          refine A_iaload 65 dX10_guard_64 rfl O28 rfl (by first | assumption | exact ix_nI (by omega) (by decide) | exact ix_lit _ rfl (by omega) (by decide) | exact ix_lit _ rfl (by decide) (by decide)) ?_
          try dsimp only
          refine A_iload 67 dX10_guard_65 rfl rfl ?_
          refine A_callSI 70 (S_X10_hasBit X l) dX10_guard_67 rfl kX10_hasBit lk_X10_93 rfl (by decide) rfl (Nat.le_of_ble_eq_true rfl) (fun v_5 h_5 qh_5 => ?_)
          obtain ⟨rfl, rfl⟩ := qh_5
          refine A_if_eq 114 73 dX10_guard_70 (by decide) rfl (fun c70 => ?_) (fun c70 => ?_)
          · skip
            try simp only [bI_0, bI_n0, Classical.not_not, Bool.not_eq_false, Bool.true_and, Bool.and_true, decide_eq_true_eq, decide_eq_false_iff_not, dayC_1, dayC_21, dayC_221, dayC_222, inI_1, inI_2, inI_3, inI_5, inI_11, inI_16] at c70
            first | refine A_iincN 117 dX10_guard_114 rfl rfl (by decide) (by first | exact (ast_s (ast_s (ast_s (ast_s (ast_s (ast_1 rfl)))))) | exact (ast_s (ast_s (ast_s (ast_s (ast_s ast_k)))))) ?_ | refine A_iinc 117 (1) dX10_guard_114 rfl rfl (by decide) (by decide) (by first | exact (ast_s (ast_s (ast_s (ast_s (ast_s (ast_1 rfl)))))) | exact (ast_s (ast_s (ast_s (ast_s (ast_s ast_k)))))) ?_
            refine A_goto 45 dX10_guard_117 (by decide) ?_
            exact A_weak (ih n0 (Nat.lt_succ_self n0) (i + 1) _ _ g45 _ (by omega) ((foldN_s (gdF x (x.2.1 k_p)) ((99, -9)) i).trans ((congrArg ((gdF x (x.2.1 k_p)) i) ee).trans (by first | with_reducible rfl | (simp only [c25, n25, cl_p, c56, cl_8, c70, if_true, if_false, ite_true, ite_false, and_true, true_and, and_false, false_and, and_self, or_true, true_or, or_false, false_or, or_self, not_true_eq_false, not_false_eq_true, decide_true, decide_false, Bool.and_true, Bool.true_and, Bool.and_false, Bool.false_and, Bool.and_self, Bool.or_true, Bool.true_or, Bool.or_false, Bool.false_or, Bool.not_true, Bool.not_false, cond_true, cond_false, bI_t, bI_f, Bool.false_eq_true, Bool.true_eq_false, dayC_1, dayC_21, dayC_221, dayC_222, gdF]; done) | (with_reducible first | exact absurd c25 c56 | exact absurd c25 c70 | exact absurd c25 hy | exact absurd c25 hyb | exact absurd c56 c25 | exact absurd c56 c70 | exact absurd c56 hy | exact absurd c56 hyb | exact absurd c70 c25 | exact absurd c70 c56 | exact absurd c70 hy | exact absurd c70 hyb | exact absurd hy c25 | exact absurd hy c56 | exact absurd hy c70 | exact absurd hy hyb | exact absurd hyb c25 | exact absurd hyb c56 | exact absurd hyb c70 | exact absurd hyb hy | (rw [c25] at c56; cases c56) | (rw [c25] at c70; cases c70) | (rw [c56] at c25; cases c25) | (rw [c56] at c70; cases c70) | (rw [c70] at c25; cases c25) | (rw [c70] at c56; cases c56)) | (simp [*, gdF]; done) | with_reducible_and_instances rfl))) O28 hf) (sub_s (sub_s (sub_s (sub_n (sub_s (sub_s (sub_s (sub_n sub_nil))))))))
          · skip
            try simp only [bI_0, bI_n0, Classical.not_not, Bool.not_eq_false, Bool.true_and, Bool.and_true, decide_eq_true_eq, decide_eq_false_iff_not, dayC_1, dayC_21, dayC_221, dayC_222, inI_1, inI_2, inI_3, inI_5, inI_11, inI_16] at c70
            refine A_aload_n 74 dX10_guard_73 rfl rfl rfl ?_
            refine A_iload_n 75 dX10_guard_74 rfl rfl rfl ?_
            refine A_iload 77 dX10_guard_75 rfl rfl ?_
            refine A_callVI 80 (S_X10_strikes X l (by first | assumption | decide | omega | exact Ne.symm (by assumption)) (by first | assumption | decide | omega | exact Ne.symm (by assumption)) (by first | assumption | decide | omega | exact Ne.symm (by assumption)) (by first | assumption | decide | omega | exact Ne.symm (by assumption))) dX10_guard_77 rfl kX10_strikes lk_X10_267 rfl O28 (by decide) rfl (Nat.le_of_ble_eq_true rfl) (fun v_6 h_6 qh_6 => ?_)
            obtain ⟨rfl, z1_6, n0h_6, eh_6⟩ := qh_6
            replace O28 := n0h_6
            replace hf : ∀ i, i ≠ 28 → h_6 i = h i := fun i g0 => (eh_6 i g0).trans (hf i g0)
            refine A_istore 82 dX10_guard_80 rfl (by decide) (by first | exact (ast_s (ast_s (ast_s (ast_s (ast_s (ast_s (ast_1 rfl))))))) | exact (ast_s (ast_s (ast_s (ast_s (ast_s (ast_s ast_k))))))) ?_
            refine A_iload 84 dX10_guard_82 rfl rfl ?_
            refine A_iload 86 dX10_guard_84 rfl rfl ?_
            refine A_icmp_ge 94 89 dX10_guard_86 (by decide) rfl (fun c86 => ?_) (fun c86 => ?_)
            · skip
              try simp only [bI_0, bI_n0, Classical.not_not, Bool.not_eq_false, Bool.true_and, Bool.and_true, decide_eq_true_eq, decide_eq_false_iff_not, dayC_1, dayC_21, dayC_221, dayC_222, inI_1, inI_2, inI_3, inI_5, inI_11, inI_16] at c86
              have n86 := c86
              replace c86 := Int32.not_lt.mpr c86
              refine A_iload 96 dX10_guard_94 rfl rfl ?_
              refine A_istore 98 dX10_guard_96 rfl (by decide) (by first | exact (ast_s (ast_s (ast_s (ast_1 rfl)))) | exact (ast_s (ast_s (ast_s ast_k)))) ?_
              refine A_iload 100 dX10_guard_98 rfl rfl ?_
              refine A_iload 102 dX10_guard_100 rfl rfl ?_
              refine A_icmp_ge 110 105 dX10_guard_102 (by decide) rfl (fun c102 => ?_) (fun c102 => ?_)
              · skip
                try simp only [bI_0, bI_n0, Classical.not_not, Bool.not_eq_false, Bool.true_and, Bool.and_true, decide_eq_true_eq, decide_eq_false_iff_not, dayC_1, dayC_21, dayC_221, dayC_222, inI_1, inI_2, inI_3, inI_5, inI_11, inI_16] at c102
                have n102 := c102
                replace c102 := Int32.not_lt.mpr c102
                refine A_iload 112 dX10_guard_110 rfl rfl ?_
                refine A_istore 114 dX10_guard_112 rfl (by decide) (by first | exact (ast_s (ast_s (ast_s (ast_s (ast_1 rfl))))) | exact (ast_s (ast_s (ast_s (ast_s ast_k))))) ?_
                first | refine A_iincN 117 dX10_guard_114 rfl rfl (by decide) (by first | exact (ast_s (ast_s (ast_s (ast_s (ast_s (ast_1 rfl)))))) | exact (ast_s (ast_s (ast_s (ast_s (ast_s ast_k)))))) ?_ | refine A_iinc 117 (1) dX10_guard_114 rfl rfl (by decide) (by decide) (by first | exact (ast_s (ast_s (ast_s (ast_s (ast_s (ast_1 rfl)))))) | exact (ast_s (ast_s (ast_s (ast_s (ast_s ast_k)))))) ?_
                refine A_goto 45 dX10_guard_117 (by decide) ?_
                exact A_weak (ih n0 (Nat.lt_succ_self n0) (i + 1) _ _ h_6 _ (by omega) ((foldN_s (gdF x (x.2.1 k_p)) ((99, -9)) i).trans ((congrArg ((gdF x (x.2.1 k_p)) i) ee).trans (by first | with_reducible rfl | (simp only [c25, n25, cl_p, c56, cl_8, c70, c86, n86, c102, n102, if_true, if_false, ite_true, ite_false, and_true, true_and, and_false, false_and, and_self, or_true, true_or, or_false, false_or, or_self, not_true_eq_false, not_false_eq_true, decide_true, decide_false, Bool.and_true, Bool.true_and, Bool.and_false, Bool.false_and, Bool.and_self, Bool.or_true, Bool.true_or, Bool.or_false, Bool.false_or, Bool.not_true, Bool.not_false, cond_true, cond_false, bI_t, bI_f, Bool.false_eq_true, Bool.true_eq_false, dayC_1, dayC_21, dayC_221, dayC_222, gdF]; done) | (with_reducible first | exact absurd c25 c56 | exact absurd c25 c70 | exact absurd c25 c86 | exact absurd c25 c102 | exact absurd c25 hy | exact absurd c25 hyb | exact absurd c56 c25 | exact absurd c56 c70 | exact absurd c56 c86 | exact absurd c56 c102 | exact absurd c56 hy | exact absurd c56 hyb | exact absurd c70 c25 | exact absurd c70 c56 | exact absurd c70 c86 | exact absurd c70 c102 | exact absurd c70 hy | exact absurd c70 hyb | exact absurd c86 c25 | exact absurd c86 c56 | exact absurd c86 c70 | exact absurd c86 c102 | exact absurd c86 hy | exact absurd c86 hyb | exact absurd c102 c25 | exact absurd c102 c56 | exact absurd c102 c70 | exact absurd c102 c86 | exact absurd c102 hy | exact absurd c102 hyb | exact absurd hy c25 | exact absurd hy c56 | exact absurd hy c70 | exact absurd hy c86 | exact absurd hy c102 | exact absurd hy hyb | exact absurd hyb c25 | exact absurd hyb c56 | exact absurd hyb c70 | exact absurd hyb c86 | exact absurd hyb c102 | exact absurd hyb hy | (rw [c25] at c56; cases c56) | (rw [c25] at c70; cases c70) | (rw [c25] at c86; cases c86) | (rw [c25] at c102; cases c102) | (rw [c56] at c25; cases c25) | (rw [c56] at c70; cases c70) | (rw [c56] at c86; cases c86) | (rw [c56] at c102; cases c102) | (rw [c70] at c25; cases c25) | (rw [c70] at c56; cases c56) | (rw [c70] at c86; cases c86) | (rw [c70] at c102; cases c102) | (rw [c86] at c25; cases c25) | (rw [c86] at c56; cases c56) | (rw [c86] at c70; cases c70) | (rw [c86] at c102; cases c102) | (rw [c102] at c25; cases c25) | (rw [c102] at c56; cases c56) | (rw [c102] at c70; cases c70) | (rw [c102] at c86; cases c86)) | (simp [*, gdF]; done) | with_reducible_and_instances rfl))) O28 hf) (sub_s (sub_s (sub_s (sub_n (sub_s (sub_s (sub_s (sub_n sub_nil))))))))
              · skip
                try simp only [bI_0, bI_n0, Classical.not_not, Bool.not_eq_false, Bool.true_and, Bool.and_true, decide_eq_true_eq, decide_eq_false_iff_not, dayC_1, dayC_21, dayC_221, dayC_222, inI_1, inI_2, inI_3, inI_5, inI_11, inI_16] at c102
                have n102 := c102
                replace c102 := Int32.not_le.mp c102
                refine A_iload 107 dX10_guard_105 rfl rfl ?_
                refine A_goto 112 dX10_guard_107 (by decide) ?_
                refine A_istore 114 dX10_guard_112 rfl (by decide) (by first | exact (ast_s (ast_s (ast_s (ast_s (ast_1 rfl))))) | exact (ast_s (ast_s (ast_s (ast_s ast_k))))) ?_
                first | refine A_iincN 117 dX10_guard_114 rfl rfl (by decide) (by first | exact (ast_s (ast_s (ast_s (ast_s (ast_s (ast_1 rfl)))))) | exact (ast_s (ast_s (ast_s (ast_s (ast_s ast_k)))))) ?_ | refine A_iinc 117 (1) dX10_guard_114 rfl rfl (by decide) (by decide) (by first | exact (ast_s (ast_s (ast_s (ast_s (ast_s (ast_1 rfl)))))) | exact (ast_s (ast_s (ast_s (ast_s (ast_s ast_k)))))) ?_
                refine A_goto 45 dX10_guard_117 (by decide) ?_
                exact A_weak (ih n0 (Nat.lt_succ_self n0) (i + 1) _ _ h_6 _ (by omega) ((foldN_s (gdF x (x.2.1 k_p)) ((99, -9)) i).trans ((congrArg ((gdF x (x.2.1 k_p)) i) ee).trans (by first | with_reducible rfl | (simp only [c25, n25, cl_p, c56, cl_8, c70, c86, n86, c102, n102, if_true, if_false, ite_true, ite_false, and_true, true_and, and_false, false_and, and_self, or_true, true_or, or_false, false_or, or_self, not_true_eq_false, not_false_eq_true, decide_true, decide_false, Bool.and_true, Bool.true_and, Bool.and_false, Bool.false_and, Bool.and_self, Bool.or_true, Bool.true_or, Bool.or_false, Bool.false_or, Bool.not_true, Bool.not_false, cond_true, cond_false, bI_t, bI_f, Bool.false_eq_true, Bool.true_eq_false, dayC_1, dayC_21, dayC_221, dayC_222, gdF]; done) | (with_reducible first | exact absurd c25 c56 | exact absurd c25 c70 | exact absurd c25 c86 | exact absurd c25 c102 | exact absurd c25 hy | exact absurd c25 hyb | exact absurd c56 c25 | exact absurd c56 c70 | exact absurd c56 c86 | exact absurd c56 c102 | exact absurd c56 hy | exact absurd c56 hyb | exact absurd c70 c25 | exact absurd c70 c56 | exact absurd c70 c86 | exact absurd c70 c102 | exact absurd c70 hy | exact absurd c70 hyb | exact absurd c86 c25 | exact absurd c86 c56 | exact absurd c86 c70 | exact absurd c86 c102 | exact absurd c86 hy | exact absurd c86 hyb | exact absurd c102 c25 | exact absurd c102 c56 | exact absurd c102 c70 | exact absurd c102 c86 | exact absurd c102 hy | exact absurd c102 hyb | exact absurd hy c25 | exact absurd hy c56 | exact absurd hy c70 | exact absurd hy c86 | exact absurd hy c102 | exact absurd hy hyb | exact absurd hyb c25 | exact absurd hyb c56 | exact absurd hyb c70 | exact absurd hyb c86 | exact absurd hyb c102 | exact absurd hyb hy | (rw [c25] at c56; cases c56) | (rw [c25] at c70; cases c70) | (rw [c25] at c86; cases c86) | (rw [c25] at c102; cases c102) | (rw [c56] at c25; cases c25) | (rw [c56] at c70; cases c70) | (rw [c56] at c86; cases c86) | (rw [c56] at c102; cases c102) | (rw [c70] at c25; cases c25) | (rw [c70] at c56; cases c56) | (rw [c70] at c86; cases c86) | (rw [c70] at c102; cases c102) | (rw [c86] at c25; cases c25) | (rw [c86] at c56; cases c56) | (rw [c86] at c70; cases c70) | (rw [c86] at c102; cases c102) | (rw [c102] at c25; cases c25) | (rw [c102] at c56; cases c56) | (rw [c102] at c70; cases c70) | (rw [c102] at c86; cases c86)) | (simp [*, gdF]; done) | with_reducible_and_instances rfl))) O28 hf) (sub_s (sub_s (sub_s (sub_n (sub_s (sub_s (sub_s (sub_n sub_nil))))))))
            · skip
              try simp only [bI_0, bI_n0, Classical.not_not, Bool.not_eq_false, Bool.true_and, Bool.and_true, decide_eq_true_eq, decide_eq_false_iff_not, dayC_1, dayC_21, dayC_221, dayC_222, inI_1, inI_2, inI_3, inI_5, inI_11, inI_16] at c86
              have n86 := c86
              replace c86 := Int32.not_le.mp c86
              refine A_iload 91 dX10_guard_89 rfl rfl ?_
              refine A_goto 96 dX10_guard_91 (by decide) ?_
              refine A_istore 98 dX10_guard_96 rfl (by decide) (by first | exact (ast_s (ast_s (ast_s (ast_1 rfl)))) | exact (ast_s (ast_s (ast_s ast_k)))) ?_
              refine A_iload 100 dX10_guard_98 rfl rfl ?_
              refine A_iload 102 dX10_guard_100 rfl rfl ?_
              refine A_icmp_ge 110 105 dX10_guard_102 (by decide) rfl (fun c102 => ?_) (fun c102 => ?_)
              · skip
                try simp only [bI_0, bI_n0, Classical.not_not, Bool.not_eq_false, Bool.true_and, Bool.and_true, decide_eq_true_eq, decide_eq_false_iff_not, dayC_1, dayC_21, dayC_221, dayC_222, inI_1, inI_2, inI_3, inI_5, inI_11, inI_16] at c102
                have n102 := c102
                replace c102 := Int32.not_lt.mpr c102
                refine A_iload 112 dX10_guard_110 rfl rfl ?_
                refine A_istore 114 dX10_guard_112 rfl (by decide) (by first | exact (ast_s (ast_s (ast_s (ast_s (ast_1 rfl))))) | exact (ast_s (ast_s (ast_s (ast_s ast_k))))) ?_
                first | refine A_iincN 117 dX10_guard_114 rfl rfl (by decide) (by first | exact (ast_s (ast_s (ast_s (ast_s (ast_s (ast_1 rfl)))))) | exact (ast_s (ast_s (ast_s (ast_s (ast_s ast_k)))))) ?_ | refine A_iinc 117 (1) dX10_guard_114 rfl rfl (by decide) (by decide) (by first | exact (ast_s (ast_s (ast_s (ast_s (ast_s (ast_1 rfl)))))) | exact (ast_s (ast_s (ast_s (ast_s (ast_s ast_k)))))) ?_
                refine A_goto 45 dX10_guard_117 (by decide) ?_
                exact A_weak (ih n0 (Nat.lt_succ_self n0) (i + 1) _ _ h_6 _ (by omega) ((foldN_s (gdF x (x.2.1 k_p)) ((99, -9)) i).trans ((congrArg ((gdF x (x.2.1 k_p)) i) ee).trans (by first | with_reducible rfl | (simp only [c25, n25, cl_p, c56, cl_8, c70, c86, n86, c102, n102, if_true, if_false, ite_true, ite_false, and_true, true_and, and_false, false_and, and_self, or_true, true_or, or_false, false_or, or_self, not_true_eq_false, not_false_eq_true, decide_true, decide_false, Bool.and_true, Bool.true_and, Bool.and_false, Bool.false_and, Bool.and_self, Bool.or_true, Bool.true_or, Bool.or_false, Bool.false_or, Bool.not_true, Bool.not_false, cond_true, cond_false, bI_t, bI_f, Bool.false_eq_true, Bool.true_eq_false, dayC_1, dayC_21, dayC_221, dayC_222, gdF]; done) | (with_reducible first | exact absurd c25 c56 | exact absurd c25 c70 | exact absurd c25 c86 | exact absurd c25 c102 | exact absurd c25 hy | exact absurd c25 hyb | exact absurd c56 c25 | exact absurd c56 c70 | exact absurd c56 c86 | exact absurd c56 c102 | exact absurd c56 hy | exact absurd c56 hyb | exact absurd c70 c25 | exact absurd c70 c56 | exact absurd c70 c86 | exact absurd c70 c102 | exact absurd c70 hy | exact absurd c70 hyb | exact absurd c86 c25 | exact absurd c86 c56 | exact absurd c86 c70 | exact absurd c86 c102 | exact absurd c86 hy | exact absurd c86 hyb | exact absurd c102 c25 | exact absurd c102 c56 | exact absurd c102 c70 | exact absurd c102 c86 | exact absurd c102 hy | exact absurd c102 hyb | exact absurd hy c25 | exact absurd hy c56 | exact absurd hy c70 | exact absurd hy c86 | exact absurd hy c102 | exact absurd hy hyb | exact absurd hyb c25 | exact absurd hyb c56 | exact absurd hyb c70 | exact absurd hyb c86 | exact absurd hyb c102 | exact absurd hyb hy | (rw [c25] at c56; cases c56) | (rw [c25] at c70; cases c70) | (rw [c25] at c86; cases c86) | (rw [c25] at c102; cases c102) | (rw [c56] at c25; cases c25) | (rw [c56] at c70; cases c70) | (rw [c56] at c86; cases c86) | (rw [c56] at c102; cases c102) | (rw [c70] at c25; cases c25) | (rw [c70] at c56; cases c56) | (rw [c70] at c86; cases c86) | (rw [c70] at c102; cases c102) | (rw [c86] at c25; cases c25) | (rw [c86] at c56; cases c56) | (rw [c86] at c70; cases c70) | (rw [c86] at c102; cases c102) | (rw [c102] at c25; cases c25) | (rw [c102] at c56; cases c56) | (rw [c102] at c70; cases c70) | (rw [c102] at c86; cases c86)) | (simp [*, gdF]; done) | with_reducible_and_instances rfl))) O28 hf) (sub_s (sub_s (sub_s (sub_n (sub_s (sub_s (sub_s (sub_n sub_nil))))))))
              · skip
                try simp only [bI_0, bI_n0, Classical.not_not, Bool.not_eq_false, Bool.true_and, Bool.and_true, decide_eq_true_eq, decide_eq_false_iff_not, dayC_1, dayC_21, dayC_221, dayC_222, inI_1, inI_2, inI_3, inI_5, inI_11, inI_16] at c102
                have n102 := c102
                replace c102 := Int32.not_le.mp c102
                refine A_iload 107 dX10_guard_105 rfl rfl ?_
                refine A_goto 112 dX10_guard_107 (by decide) ?_
                refine A_istore 114 dX10_guard_112 rfl (by decide) (by first | exact (ast_s (ast_s (ast_s (ast_s (ast_1 rfl))))) | exact (ast_s (ast_s (ast_s (ast_s ast_k))))) ?_
                first | refine A_iincN 117 dX10_guard_114 rfl rfl (by decide) (by first | exact (ast_s (ast_s (ast_s (ast_s (ast_s (ast_1 rfl)))))) | exact (ast_s (ast_s (ast_s (ast_s (ast_s ast_k)))))) ?_ | refine A_iinc 117 (1) dX10_guard_114 rfl rfl (by decide) (by decide) (by first | exact (ast_s (ast_s (ast_s (ast_s (ast_s (ast_1 rfl)))))) | exact (ast_s (ast_s (ast_s (ast_s (ast_s ast_k)))))) ?_
                refine A_goto 45 dX10_guard_117 (by decide) ?_
                exact A_weak (ih n0 (Nat.lt_succ_self n0) (i + 1) _ _ h_6 _ (by omega) ((foldN_s (gdF x (x.2.1 k_p)) ((99, -9)) i).trans ((congrArg ((gdF x (x.2.1 k_p)) i) ee).trans (by first | with_reducible rfl | (simp only [c25, n25, cl_p, c56, cl_8, c70, c86, n86, c102, n102, if_true, if_false, ite_true, ite_false, and_true, true_and, and_false, false_and, and_self, or_true, true_or, or_false, false_or, or_self, not_true_eq_false, not_false_eq_true, decide_true, decide_false, Bool.and_true, Bool.true_and, Bool.and_false, Bool.false_and, Bool.and_self, Bool.or_true, Bool.true_or, Bool.or_false, Bool.false_or, Bool.not_true, Bool.not_false, cond_true, cond_false, bI_t, bI_f, Bool.false_eq_true, Bool.true_eq_false, dayC_1, dayC_21, dayC_221, dayC_222, gdF]; done) | (with_reducible first | exact absurd c25 c56 | exact absurd c25 c70 | exact absurd c25 c86 | exact absurd c25 c102 | exact absurd c25 hy | exact absurd c25 hyb | exact absurd c56 c25 | exact absurd c56 c70 | exact absurd c56 c86 | exact absurd c56 c102 | exact absurd c56 hy | exact absurd c56 hyb | exact absurd c70 c25 | exact absurd c70 c56 | exact absurd c70 c86 | exact absurd c70 c102 | exact absurd c70 hy | exact absurd c70 hyb | exact absurd c86 c25 | exact absurd c86 c56 | exact absurd c86 c70 | exact absurd c86 c102 | exact absurd c86 hy | exact absurd c86 hyb | exact absurd c102 c25 | exact absurd c102 c56 | exact absurd c102 c70 | exact absurd c102 c86 | exact absurd c102 hy | exact absurd c102 hyb | exact absurd hy c25 | exact absurd hy c56 | exact absurd hy c70 | exact absurd hy c86 | exact absurd hy c102 | exact absurd hy hyb | exact absurd hyb c25 | exact absurd hyb c56 | exact absurd hyb c70 | exact absurd hyb c86 | exact absurd hyb c102 | exact absurd hyb hy | (rw [c25] at c56; cases c56) | (rw [c25] at c70; cases c70) | (rw [c25] at c86; cases c86) | (rw [c25] at c102; cases c102) | (rw [c56] at c25; cases c25) | (rw [c56] at c70; cases c70) | (rw [c56] at c86; cases c86) | (rw [c56] at c102; cases c102) | (rw [c70] at c25; cases c25) | (rw [c70] at c56; cases c56) | (rw [c70] at c86; cases c86) | (rw [c70] at c102; cases c102) | (rw [c86] at c25; cases c25) | (rw [c86] at c56; cases c56) | (rw [c86] at c70; cases c70) | (rw [c86] at c102; cases c102) | (rw [c102] at c25; cases c25) | (rw [c102] at c56; cases c56) | (rw [c102] at c70; cases c70) | (rw [c102] at c86; cases c86)) | (simp [*, gdF]; done) | with_reducible_and_instances rfl))) O28 hf) (sub_s (sub_s (sub_s (sub_n (sub_s (sub_s (sub_s (sub_n sub_nil))))))))
    exact A_weak (L45 (9) (0) (_) (_) h_1 (_) (by omega) (rfl) O28 hf) (sub_s (sub_s (sub_s (sub_n (sub_s (sub_s (sub_s (sub_n sub_nil))))))))
  · skip
    try simp only [bI_0, bI_n0, Classical.not_not, Bool.not_eq_false, Bool.true_and, Bool.and_true, decide_eq_true_eq, decide_eq_false_iff_not, dayC_1, dayC_21, dayC_221, dayC_222, inI_1, inI_2, inI_3, inI_5, inI_11, inI_16] at c25
    have n25 := c25
    replace c25 := Int32.not_le.mp c25
    have hcd : CD (wP01 x p v) := cz_neg wP01_cz c25
    refine A_aload_n 29 dX10_guard_28 rfl rfl rfl ?_
    refine A_iload_n 30 dX10_guard_29 rfl rfl rfl ?_
    refine A_callVI 33 (S_X10_refuse_c X l (by first | assumption | decide | omega | exact Ne.symm (by assumption)) (by first | assumption | (unfold CD; decide))) dX10_guard_30 rfl kX10_refuse lk_X10_121 rfl O28 (by decide) rfl (Nat.le_of_ble_eq_true rfl) (fun v_7 h_7 qh_7 => ?_)
    obtain ⟨rfl, n0h_7, eh_7⟩ := qh_7
    replace O28 := n0h_7
    replace hf : ∀ i, i ≠ 28 → h_7 i = h i := fun i g0 => (eh_7 i g0).trans (hf i g0)
    refine A_iret dX10_guard_33 rfl ⟨_, rfl, (by exact rV_n hcd.ne), _, O28, hf⟩
set_option maxHeartbeats 4000000 in
set_option maxRecDepth 100000 in
theorem S_X10_areTwo (X : En) (l : Launch) {h : Hp} {x : PW} {c : RC} {z : RZ} (O28 : h 28 = some (rB x (-1) c z)) (hW : WOK x) {a b : Int32} : Ct X l mX10_areTwo [aR 28 0, aI a, aI b] h (QI (PI0 (bI (twoQ x a b)) h)) := by
  have hx := hW.1
  have hp := hW.2.1
  have h10 := hx.1
  refine Ct.intro [some (aR 28 0), some (aI a), some (aI b)] (by decide +kernel) rfl (Nat.le_of_ble_eq_true rfl) ?_
  refine A_aload_n 1 dX10_areTwo_0 rfl rfl rfl ?_
  refine A_iload_n 2 dX10_areTwo_1 rfl rfl rfl ?_
  refine A_callVI 5 (S_X10_isOne X l (by first | assumption | decide | omega | exact Ne.symm (by assumption)) (by first | assumption | decide | omega | exact Ne.symm (by assumption))) dX10_areTwo_2 rfl kX10_isOne lk_X10_160 rfl O28 (by decide) rfl (Nat.le_of_ble_eq_true rfl) (fun v_1 h_1 qh_1 => ?_)
  obtain ⟨rfl, rfl⟩ := qh_1
  refine A_if_eq 25 8 dX10_areTwo_5 (by decide) rfl (fun c5 => ?_) (fun c5 => ?_)
  · skip
    try simp only [bI_0, bI_n0, Classical.not_not, Bool.not_eq_false, Bool.true_and, Bool.and_true, decide_eq_true_eq, decide_eq_false_iff_not, dayC_1, dayC_21, dayC_221, dayC_222, inI_1, inI_2, inI_3, inI_5, inI_11, inI_16] at c5
    refine A_iconst 26 (0) dX10_areTwo_25 rfl (by decide) ?_
    refine A_zret dX10_areTwo_26 rfl (by first | with_reducible exact bI01 _ | with_reducible exact Or.inl rfl | with_reducible exact Or.inr rfl | assumption) ⟨_, rfl, (by first | (simp only [c5, if_true, if_false, ite_true, ite_false, and_true, true_and, and_false, false_and, and_self, or_true, true_or, or_false, false_or, or_self, not_true_eq_false, not_false_eq_true, decide_true, decide_false, Bool.and_true, Bool.true_and, Bool.and_false, Bool.false_and, Bool.and_self, Bool.or_true, Bool.true_or, Bool.or_false, Bool.false_or, Bool.not_true, Bool.not_false, cond_true, cond_false, bI_t, bI_f, Bool.false_eq_true, Bool.true_eq_false, dayC_1, dayC_21, dayC_221, dayC_222, twoQ]; done)), rfl⟩
  · skip
    try simp only [bI_0, bI_n0, Classical.not_not, Bool.not_eq_false, Bool.true_and, Bool.and_true, decide_eq_true_eq, decide_eq_false_iff_not, dayC_1, dayC_21, dayC_221, dayC_222, inI_1, inI_2, inI_3, inI_5, inI_11, inI_16] at c5
    refine A_aload_n 9 dX10_areTwo_8 rfl rfl rfl ?_
    refine A_iload_n 10 dX10_areTwo_9 rfl rfl rfl ?_
    refine A_callVI 13 (S_X10_isOne X l (by first | assumption | decide | omega | exact Ne.symm (by assumption)) (by first | assumption | decide | omega | exact Ne.symm (by assumption))) dX10_areTwo_10 rfl kX10_isOne lk_X10_160 rfl O28 (by decide) rfl (Nat.le_of_ble_eq_true rfl) (fun v_2 h_2 qh_2 => ?_)
    obtain ⟨rfl, rfl⟩ := qh_2
    refine A_if_eq 25 16 dX10_areTwo_13 (by decide) rfl (fun c13 => ?_) (fun c13 => ?_)
    · skip
      try simp only [bI_0, bI_n0, Classical.not_not, Bool.not_eq_false, Bool.true_and, Bool.and_true, decide_eq_true_eq, decide_eq_false_iff_not, dayC_1, dayC_21, dayC_221, dayC_222, inI_1, inI_2, inI_3, inI_5, inI_11, inI_16] at c13
      refine A_iconst 26 (0) dX10_areTwo_25 rfl (by decide) ?_
      refine A_zret dX10_areTwo_26 rfl (by first | with_reducible exact bI01 _ | with_reducible exact Or.inl rfl | with_reducible exact Or.inr rfl | assumption) ⟨_, rfl, (by first | (simp only [c5, c13, if_true, if_false, ite_true, ite_false, and_true, true_and, and_false, false_and, and_self, or_true, true_or, or_false, false_or, or_self, not_true_eq_false, not_false_eq_true, decide_true, decide_false, Bool.and_true, Bool.true_and, Bool.and_false, Bool.false_and, Bool.and_self, Bool.or_true, Bool.true_or, Bool.or_false, Bool.false_or, Bool.not_true, Bool.not_false, cond_true, cond_false, bI_t, bI_f, Bool.false_eq_true, Bool.true_eq_false, dayC_1, dayC_21, dayC_221, dayC_222, twoQ]; done)), rfl⟩
    · skip
      try simp only [bI_0, bI_n0, Classical.not_not, Bool.not_eq_false, Bool.true_and, Bool.and_true, decide_eq_true_eq, decide_eq_false_iff_not, dayC_1, dayC_21, dayC_221, dayC_222, inI_1, inI_2, inI_3, inI_5, inI_11, inI_16] at c13
      refine A_iload_n 17 dX10_areTwo_16 rfl rfl rfl ?_
      refine A_iload_n 18 dX10_areTwo_17 rfl rfl rfl ?_
      refine A_icmp_eq 25 21 dX10_areTwo_18 (by decide) rfl (fun c18 => ?_) (fun c18 => ?_)
      · skip
        try simp only [bI_0, bI_n0, Classical.not_not, Bool.not_eq_false, Bool.true_and, Bool.and_true, decide_eq_true_eq, decide_eq_false_iff_not, dayC_1, dayC_21, dayC_221, dayC_222, inI_1, inI_2, inI_3, inI_5, inI_11, inI_16] at c18
        refine A_iconst 26 (0) dX10_areTwo_25 rfl (by decide) ?_
        refine A_zret dX10_areTwo_26 rfl (by first | with_reducible exact bI01 _ | with_reducible exact Or.inl rfl | with_reducible exact Or.inr rfl | assumption) ⟨_, rfl, (by first | (simp only [c5, c13, c18, if_true, if_false, ite_true, ite_false, and_true, true_and, and_false, false_and, and_self, or_true, true_or, or_false, false_or, or_self, not_true_eq_false, not_false_eq_true, decide_true, decide_false, Bool.and_true, Bool.true_and, Bool.and_false, Bool.false_and, Bool.and_self, Bool.or_true, Bool.true_or, Bool.or_false, Bool.false_or, Bool.not_true, Bool.not_false, cond_true, cond_false, bI_t, bI_f, Bool.false_eq_true, Bool.true_eq_false, dayC_1, dayC_21, dayC_221, dayC_222, twoQ]; done) | (simp only [c5, c13, eq_true c18, if_true, if_false, ite_true, ite_false, and_true, true_and, and_false, false_and, and_self, or_true, true_or, or_false, false_or, or_self, not_true_eq_false, not_false_eq_true, decide_true, decide_false, Bool.and_true, Bool.true_and, Bool.and_false, Bool.false_and, Bool.and_self, Bool.or_true, Bool.true_or, Bool.or_false, Bool.false_or, Bool.not_true, Bool.not_false, cond_true, cond_false, bI_t, bI_f, Bool.false_eq_true, Bool.true_eq_false, dayC_1, dayC_21, dayC_221, dayC_222, twoQ]; done)), rfl⟩
      · skip
        try simp only [bI_0, bI_n0, Classical.not_not, Bool.not_eq_false, Bool.true_and, Bool.and_true, decide_eq_true_eq, decide_eq_false_iff_not, dayC_1, dayC_21, dayC_221, dayC_222, inI_1, inI_2, inI_3, inI_5, inI_11, inI_16] at c18
        refine A_iconst 22 (1) dX10_areTwo_21 rfl (by decide) ?_
        refine A_goto 26 dX10_areTwo_22 (by decide) ?_
        refine A_zret dX10_areTwo_26 rfl (by first | with_reducible exact bI01 _ | with_reducible exact Or.inl rfl | with_reducible exact Or.inr rfl | assumption) ⟨_, rfl, (by first | (simp only [c5, c13, c18, if_true, if_false, ite_true, ite_false, and_true, true_and, and_false, false_and, and_self, or_true, true_or, or_false, false_or, or_self, not_true_eq_false, not_false_eq_true, decide_true, decide_false, Bool.and_true, Bool.true_and, Bool.and_false, Bool.false_and, Bool.and_self, Bool.or_true, Bool.true_or, Bool.or_false, Bool.false_or, Bool.not_true, Bool.not_false, cond_true, cond_false, bI_t, bI_f, Bool.false_eq_true, Bool.true_eq_false, dayC_1, dayC_21, dayC_221, dayC_222, twoQ]; done)), rfl⟩
set_option maxHeartbeats 4000000 in
set_option maxRecDepth 100000 in
theorem S_X10_give (X : En) (l : Launch) {h : Hp} {x : PW} {c : RC} {z : RZ} (O28 : h 28 = some (rB x (-1) c z)) (hW : WOK x)  {a b : Int32} : Ct X l mX10_give [aR 28 0, aI a, aI b] h (QI (fun vr h2 => (rV (wAB x a b) (aGive x a b)) = vr ∧ ∃ (z1 : RZ), h2 (28) = some (rB x (-1) (rS (wAB x a b) c.1, c.2) z1) ∧ ∀ i, i ≠ 28 → h2 i = h i)) := by
  have hx := hW.1
  have hp := hW.2.1
  have h10 := hx.1
  have hf : ∀ i, i ≠ 28 → h i = h i := fun _ _ => rfl
  refine Ct.intro [some (aR 28 0), some (aI a), some (aI b), none, none, none, none] (by decide +kernel) rfl (Nat.le_of_ble_eq_true rfl) ?_
  refine A_aload_n 1 dX10_give_0 rfl rfl rfl ?_
  refine A_iconst 2 (0) dX10_give_1 rfl (by decide) ?_
  refine P_X10_9 5 dX10_give_2 rfl fw_X10_78 O28 (fun h_1 nh_1 eh_1 => ?_)
  replace O28 := nh_1
  replace hf : ∀ i, i ≠ 28 → h_1 i = h i := fun i g0 => (eh_1 i g0).trans (hf i g0)
  try dsimp only at O28
  refine A_aload_n 6 dX10_give_5 rfl rfl rfl ?_
  refine A_iload_n 7 dX10_give_6 rfl rfl rfl ?_
  refine A_iload_n 8 dX10_give_7 rfl rfl rfl ?_
  refine A_callVI 11 (S_X10_areTwo X l (by first | assumption | decide | omega | exact Ne.symm (by assumption)) (by first | assumption | decide | omega | exact Ne.symm (by assumption))) dX10_give_8 rfl kX10_areTwo lk_X10_270 rfl O28 (by decide) rfl (Nat.le_of_ble_eq_true rfl) (fun v_2 h_2 qh_2 => ?_)
  obtain ⟨rfl, rfl⟩ := qh_2
  refine A_if_ne 20 14 dX10_give_11 (by decide) rfl (fun c11 => ?_) (fun c11 => ?_)
  · skip
    try simp only [bI_0, bI_n0, Classical.not_not, Bool.not_eq_false, Bool.true_and, Bool.and_true, decide_eq_true_eq, decide_eq_false_iff_not, dayC_1, dayC_21, dayC_221, dayC_222, inI_1, inI_2, inI_3, inI_5, inI_11, inI_16] at c11
    obtain ⟨g1, g2, g3⟩ := twoQ_t c11
    obtain ⟨k_a, rfl, hk_a⟩ := inN_ex g1 (by omega)
    have cl_a : (nI k_a).toNatClampNeg = k_a := nI_clamp (by omega)
    have hk6_a : k_a < 6 := by omega
    obtain ⟨k_b, rfl, hk_b⟩ := inN_ex g2 (by omega)
    have cl_b : (nI k_b).toNatClampNeg = k_b := nI_clamp (by omega)
    have hk6_b : k_b < 6 := by omega
    have cl_g1 : inN (nI k_a) x.2.2.2.1 = true := g1
    have cl_g2 : inN (nI k_b) x.2.2.2.1 = true := g2
    have cl_g3 := g3
    refine A_aload_n 21 dX10_give_20 rfl rfl rfl ?_
    refine A_aload_n 22 dX10_give_21 rfl rfl rfl ?_
    refine A_getfield 25 dX10_give_22 rfl f_X10_22 O28 rfl ?_
    refine A_iload_n 26 dX10_give_25 rfl rfl rfl ?_
    refine A_iaload 27 dX10_give_26 rfl O28 rfl (by first | assumption | exact ix_nI (by omega) (by decide) | exact ix_lit _ rfl (by omega) (by decide) | exact ix_lit _ rfl (by decide) (by decide)) ?_
    try dsimp only
    refine A_callVI 30 (S_X10_manyBy_n X l (by first | assumption | decide | omega | exact Ne.symm (by assumption)) (by first | assumption | decide | omega | exact Ne.symm (by assumption))) dX10_give_27 rfl kX10_manyBy lk_X10_233 rfl O28 (by decide) rfl (Nat.le_of_ble_eq_true rfl) (fun v_3 h_3 qh_3 => ?_)
    obtain ⟨rfl, n0h_3, eh_3⟩ := qh_3
    replace O28 := n0h_3
    replace hf : ∀ i, i ≠ 28 → h_3 i = h i := fun i g0 => (eh_3 i g0).trans (hf i g0)
    refine A_aload_n 31 dX10_give_30 rfl rfl rfl ?_
    refine A_aload_n 32 dX10_give_31 rfl rfl rfl ?_
    refine A_getfield 35 dX10_give_32 rfl f_X10_22 O28 rfl ?_
    refine A_iload_n 36 dX10_give_35 rfl rfl rfl ?_
    refine A_iaload 37 dX10_give_36 rfl O28 rfl (by first | assumption | exact ix_nI (by omega) (by decide) | exact ix_lit _ rfl (by omega) (by decide) | exact ix_lit _ rfl (by decide) (by decide)) ?_
    try dsimp only
    refine A_callVI 40 (S_X10_manyBy_n X l (by first | assumption | decide | omega | exact Ne.symm (by assumption)) (by first | assumption | decide | omega | exact Ne.symm (by assumption))) dX10_give_37 rfl kX10_manyBy lk_X10_233 rfl O28 (by decide) rfl (Nat.le_of_ble_eq_true rfl) (fun v_4 h_4 qh_4 => ?_)
    obtain ⟨rfl, n0h_4, eh_4⟩ := qh_4
    replace O28 := n0h_4
    replace hf : ∀ i, i ≠ 28 → h_4 i = h i := fun i g0 => (eh_4 i g0).trans (hf i g0)
    refine A_iadd 41 dX10_give_40 rfl ?_
    refine A_istore_n 42 dX10_give_41 rfl rfl (by decide) (by first | exact (ast_s (ast_s (ast_1 rfl))) | exact (ast_s (ast_s ast_k))) ?_
    refine A_bipush 44 (-9) dX10_give_42 rfl (by decide) ?_
    refine A_istore 46 dX10_give_44 rfl (by decide) (by first | exact (ast_s (ast_s (ast_s (ast_1 rfl)))) | exact (ast_s (ast_s (ast_s ast_k)))) ?_
    refine A_iconst 47 (0) dX10_give_46 rfl (by decide) ?_
    refine A_istore 49 dX10_give_47 rfl (by decide) (by first | exact (ast_s (ast_s (ast_s (ast_s (ast_1 rfl))))) | exact (ast_s (ast_s (ast_s (ast_s ast_k))))) ?_
    have L49 : ∀ (nq i : Nat) (m u : Int32) (g49 : Hp) (z2 : RZ), (nq + i = 8) → (foldN (giF x (x.2.1 k_a) (x.2.1 k_b)) ((D2 x (x.2.1 k_a) (x.2.1 k_b), -9)) i = (m, u)) → (g49 28 = some (rB x (-1) c z2)) → (∀ i, i ≠ 28 → g49 i = h i) → Av X l mX10_give 49 [some (aR 28 0), some (aI (nI (k_a))), some (aI (nI (k_b))), some (aI (m)), some (aI (u)), some (aI (nI (i))), none] [] g49 (QI (fun vr h2 => (rV (wAB x (nI k_a) (nI k_b)) (aGive x (nI k_a) (nI k_b))) = vr ∧ ∃ (z1 : RZ), h2 (28) = some (rB x (-1) (rS (wAB x (nI k_a) (nI k_b)) c.1, c.2) z1) ∧ ∀ i, i ≠ 28 → h2 i = h i)) := by
      intro nq
      induction nq using Nat.strongRecOn with
      | _ nq ih =>
      intro i m u g49 z2 en ee O28 hf
      refine A_iload 51 dX10_give_49 rfl rfl ?_
      refine A_bipush 53 (8) dX10_give_51 rfl (by decide) ?_
      refine A_icmp_ge 139 56 dX10_give_53 (by decide) rfl (fun c53 => ?_) (fun c53 => ?_)
      · skip
        obtain rfl := (up_ge_T (N := 8) c53 rfl (by omega) (by omega)).symm
        refine A_iload 141 dX10_give_139 rfl rfl ?_
        have ew : wAB x (nI k_a) (nI k_b) = 0 := by
          first | (simp only [c11, cl_a, cl_b, cl_g1, cl_g2, cl_g3, if_true, if_false, ite_true, ite_false, and_true, true_and, and_false, false_and, and_self, or_true, true_or, or_false, false_or, or_self, not_true_eq_false, not_false_eq_true, decide_true, decide_false, Bool.and_true, Bool.true_and, Bool.and_false, Bool.false_and, Bool.and_self, Bool.or_true, Bool.true_or, Bool.or_false, Bool.false_or, Bool.not_true, Bool.not_false, cond_true, cond_false, bI_t, bI_f, Bool.false_eq_true, Bool.true_eq_false, dayC_1, dayC_21, dayC_221, dayC_222, w01, wP, wPL, wP01, wL01, wRow, w01R, wAB, wNum, isP, isL]; done) | exact cl_f
        refine A_iret dX10_give_141 rfl ⟨_, rfl, (by rw [ew, rV_0]; unfold aGive GI pk; rw [cl_a, cl_b, ee]), _, (by rw [ew]; first | (rw [rS_0]; exact O28) | exact O28), hf⟩
      · skip
        have hi := up_ge_F (N := 8) c53 rfl (by omega) (by omega)
        obtain ⟨n0, rfl⟩ : ∃ q, nq = q + 1 := ⟨nq - 1, by omega⟩
        refine A_aload_n 57 dX10_give_56 rfl rfl rfl ?_
        refine A_getfield 60 dX10_give_57 rfl f_X10_22 O28 rfl ?_
        refine A_iload_n 61 dX10_give_60 rfl rfl rfl ?_
        refine A_iaload 62 dX10_give_61 rfl O28 rfl (by first | assumption | exact ix_nI (by omega) (by decide) | exact ix_lit _ rfl (by omega) (by decide) | exact ix_lit _ rfl (by decide) (by decide)) ?_
        try dsimp only
        refine A_iload 64 dX10_give_62 rfl rfl ?_
        refine A_callSI 67 (S_X10_hasBit X l) dX10_give_64 rfl kX10_hasBit lk_X10_93 rfl (by decide) rfl (Nat.le_of_ble_eq_true rfl) (fun v_5 h_5 qh_5 => ?_)
        obtain ⟨rfl, rfl⟩ := qh_5
        refine A_if_eq 133 70 dX10_give_67 (by decide) rfl (fun c67 => ?_) (fun c67 => ?_)
        · skip
          try simp only [bI_0, bI_n0, Classical.not_not, Bool.not_eq_false, Bool.true_and, Bool.and_true, decide_eq_true_eq, decide_eq_false_iff_not, dayC_1, dayC_21, dayC_221, dayC_222, inI_1, inI_2, inI_3, inI_5, inI_11, inI_16] at c67
          first | refine A_iincN 136 dX10_give_133 rfl rfl (by decide) (by first | exact (ast_s (ast_s (ast_s (ast_s (ast_1 rfl))))) | exact (ast_s (ast_s (ast_s (ast_s ast_k))))) ?_ | refine A_iinc 136 (1) dX10_give_133 rfl rfl (by decide) (by decide) (by first | exact (ast_s (ast_s (ast_s (ast_s (ast_1 rfl))))) | exact (ast_s (ast_s (ast_s (ast_s ast_k))))) ?_
          refine A_goto 49 dX10_give_136 (by decide) ?_
          exact A_weak (ih n0 (Nat.lt_succ_self n0) (i + 1) _ _ g49 _ (by omega) ((foldN_s (giF x (x.2.1 k_a) (x.2.1 k_b)) ((D2 x (x.2.1 k_a) (x.2.1 k_b), -9)) i).trans ((congrArg ((giF x (x.2.1 k_a) (x.2.1 k_b)) i) ee).trans (by first | with_reducible rfl | (simp only [c11, cl_a, cl_b, cl_g1, cl_g2, cl_g3, c67, if_true, if_false, ite_true, ite_false, and_true, true_and, and_false, false_and, and_self, or_true, true_or, or_false, false_or, or_self, not_true_eq_false, not_false_eq_true, decide_true, decide_false, Bool.and_true, Bool.true_and, Bool.and_false, Bool.false_and, Bool.and_self, Bool.or_true, Bool.true_or, Bool.or_false, Bool.false_or, Bool.not_true, Bool.not_false, cond_true, cond_false, bI_t, bI_f, Bool.false_eq_true, Bool.true_eq_false, dayC_1, dayC_21, dayC_221, dayC_222, giF, giN, D2]; done) | (with_reducible first | exact absurd c11 c67 | exact absurd c11 hy | exact absurd c11 hyb | exact absurd c67 c11 | exact absurd c67 hy | exact absurd c67 hyb | exact absurd hy c11 | exact absurd hy c67 | exact absurd hy hyb | exact absurd hyb c11 | exact absurd hyb c67 | exact absurd hyb hy | (rw [c11] at c67; cases c67) | (rw [c67] at c11; cases c11)) | (simp [*, giF, giN, D2]; done) | with_reducible_and_instances rfl))) O28 hf) (sub_s (sub_s (sub_s (sub_s (sub_s (sub_s (sub_n sub_nil)))))))
        · skip
          try simp only [bI_0, bI_n0, Classical.not_not, Bool.not_eq_false, Bool.true_and, Bool.and_true, decide_eq_true_eq, decide_eq_false_iff_not, dayC_1, dayC_21, dayC_221, dayC_222, inI_1, inI_2, inI_3, inI_5, inI_11, inI_16] at c67
          refine A_aload_n 71 dX10_give_70 rfl rfl rfl ?_
          refine A_aload_n 72 dX10_give_71 rfl rfl rfl ?_
          refine A_getfield 75 dX10_give_72 rfl f_X10_22 O28 rfl ?_
          refine A_iload_n 76 dX10_give_75 rfl rfl rfl ?_
          refine A_iaload 77 dX10_give_76 rfl O28 rfl (by first | assumption | exact ix_nI (by omega) (by decide) | exact ix_lit _ rfl (by omega) (by decide) | exact ix_lit _ rfl (by decide) (by decide)) ?_
          try dsimp only
          refine A_iconst 78 (1) dX10_give_77 rfl (by decide) ?_
          refine A_iload 80 dX10_give_78 rfl rfl ?_
          refine A_ishl 81 dX10_give_80 rfl ?_
          rw [sh_tb hi]
          refine A_iconst 82 (-1) dX10_give_81 rfl (by decide) ?_
          refine A_ixor 83 dX10_give_82 rfl ?_
          refine A_iand 84 dX10_give_83 rfl ?_
          refine A_callVI 87 (S_X10_manyBy_n X l (by first | assumption | decide | omega | exact Ne.symm (by assumption)) (by first | assumption | decide | omega | exact Ne.symm (by assumption))) dX10_give_84 rfl kX10_manyBy lk_X10_233 rfl O28 (by decide) rfl (Nat.le_of_ble_eq_true rfl) (fun v_6 h_6 qh_6 => ?_)
          obtain ⟨rfl, n0h_6, eh_6⟩ := qh_6
          replace O28 := n0h_6
          replace hf : ∀ i, i ≠ 28 → h_6 i = h i := fun i g0 => (eh_6 i g0).trans (hf i g0)
          refine A_aload_n 88 dX10_give_87 rfl rfl rfl ?_
          refine A_aload_n 89 dX10_give_88 rfl rfl rfl ?_
          refine A_getfield 92 dX10_give_89 rfl f_X10_22 O28 rfl ?_
          refine A_iload_n 93 dX10_give_92 rfl rfl rfl ?_
          refine A_iaload 94 dX10_give_93 rfl O28 rfl (by first | assumption | exact ix_nI (by omega) (by decide) | exact ix_lit _ rfl (by omega) (by decide) | exact ix_lit _ rfl (by decide) (by decide)) ?_
          try dsimp only
          refine A_iconst 95 (1) dX10_give_94 rfl (by decide) ?_
          refine A_iload 97 dX10_give_95 rfl rfl ?_
          refine A_ishl 98 dX10_give_97 rfl ?_
          rw [sh_tb hi]
          refine A_ior 99 dX10_give_98 rfl ?_
          refine A_callVI 102 (S_X10_manyBy_n X l (by first | assumption | decide | omega | exact Ne.symm (by assumption)) (by first | assumption | decide | omega | exact Ne.symm (by assumption))) dX10_give_99 rfl kX10_manyBy lk_X10_233 rfl O28 (by decide) rfl (Nat.le_of_ble_eq_true rfl) (fun v_7 h_7 qh_7 => ?_)
          obtain ⟨rfl, n0h_7, eh_7⟩ := qh_7
          replace O28 := n0h_7
          replace hf : ∀ i, i ≠ 28 → h_7 i = h i := fun i g0 => (eh_7 i g0).trans (hf i g0)
          refine A_iadd 103 dX10_give_102 rfl ?_
          refine A_istore 105 dX10_give_103 rfl (by decide) (by first | exact (ast_s (ast_s (ast_s (ast_s (ast_s (ast_1 rfl)))))) | exact (ast_s (ast_s (ast_s (ast_s (ast_s ast_k)))))) ?_
          refine A_iload 107 dX10_give_105 rfl rfl ?_
          refine A_iload_n 108 dX10_give_107 rfl rfl rfl ?_
          refine A_icmp_le 116 111 dX10_give_108 (by decide) rfl (fun c108 => ?_) (fun c108 => ?_)
          · skip
            try simp only [bI_0, bI_n0, Classical.not_not, Bool.not_eq_false, Bool.true_and, Bool.and_true, decide_eq_true_eq, decide_eq_false_iff_not, dayC_1, dayC_21, dayC_221, dayC_222, inI_1, inI_2, inI_3, inI_5, inI_11, inI_16] at c108
            have n108 := c108
            replace c108 := Int32.not_lt.mpr c108
            refine A_iload 118 dX10_give_116 rfl rfl ?_
            refine A_istore 120 dX10_give_118 rfl (by decide) (by first | exact (ast_s (ast_s (ast_s (ast_1 rfl)))) | exact (ast_s (ast_s (ast_s ast_k)))) ?_
            refine A_iload 122 dX10_give_120 rfl rfl ?_
            refine A_iload_n 123 dX10_give_122 rfl rfl rfl ?_
            refine A_icmp_le 131 126 dX10_give_123 (by decide) rfl (fun c123 => ?_) (fun c123 => ?_)
            · skip
              try simp only [bI_0, bI_n0, Classical.not_not, Bool.not_eq_false, Bool.true_and, Bool.and_true, decide_eq_true_eq, decide_eq_false_iff_not, dayC_1, dayC_21, dayC_221, dayC_222, inI_1, inI_2, inI_3, inI_5, inI_11, inI_16] at c123
              have n123 := c123
              replace c123 := Int32.not_lt.mpr c123
              refine A_iload_n 132 dX10_give_131 rfl rfl rfl ?_
              refine A_istore_n 133 dX10_give_132 rfl rfl (by decide) (by first | exact (ast_s (ast_s (ast_1 rfl))) | exact (ast_s (ast_s ast_k))) ?_
              first | refine A_iincN 136 dX10_give_133 rfl rfl (by decide) (by first | exact (ast_s (ast_s (ast_s (ast_s (ast_1 rfl))))) | exact (ast_s (ast_s (ast_s (ast_s ast_k))))) ?_ | refine A_iinc 136 (1) dX10_give_133 rfl rfl (by decide) (by decide) (by first | exact (ast_s (ast_s (ast_s (ast_s (ast_1 rfl))))) | exact (ast_s (ast_s (ast_s (ast_s ast_k))))) ?_
              refine A_goto 49 dX10_give_136 (by decide) ?_
              exact A_weak (ih n0 (Nat.lt_succ_self n0) (i + 1) _ _ h_7 _ (by omega) ((foldN_s (giF x (x.2.1 k_a) (x.2.1 k_b)) ((D2 x (x.2.1 k_a) (x.2.1 k_b), -9)) i).trans ((congrArg ((giF x (x.2.1 k_a) (x.2.1 k_b)) i) ee).trans (by first | with_reducible rfl | (simp only [c11, cl_a, cl_b, cl_g1, cl_g2, cl_g3, c67, c108, n108, c123, n123, if_true, if_false, ite_true, ite_false, and_true, true_and, and_false, false_and, and_self, or_true, true_or, or_false, false_or, or_self, not_true_eq_false, not_false_eq_true, decide_true, decide_false, Bool.and_true, Bool.true_and, Bool.and_false, Bool.false_and, Bool.and_self, Bool.or_true, Bool.true_or, Bool.or_false, Bool.false_or, Bool.not_true, Bool.not_false, cond_true, cond_false, bI_t, bI_f, Bool.false_eq_true, Bool.true_eq_false, dayC_1, dayC_21, dayC_221, dayC_222, giF, giN, D2]; done) | (with_reducible first | exact absurd c11 c67 | exact absurd c11 c108 | exact absurd c11 c123 | exact absurd c11 hy | exact absurd c11 hyb | exact absurd c67 c11 | exact absurd c67 c108 | exact absurd c67 c123 | exact absurd c67 hy | exact absurd c67 hyb | exact absurd c108 c11 | exact absurd c108 c67 | exact absurd c108 c123 | exact absurd c108 hy | exact absurd c108 hyb | exact absurd c123 c11 | exact absurd c123 c67 | exact absurd c123 c108 | exact absurd c123 hy | exact absurd c123 hyb | exact absurd hy c11 | exact absurd hy c67 | exact absurd hy c108 | exact absurd hy c123 | exact absurd hy hyb | exact absurd hyb c11 | exact absurd hyb c67 | exact absurd hyb c108 | exact absurd hyb c123 | exact absurd hyb hy | (rw [c11] at c67; cases c67) | (rw [c11] at c108; cases c108) | (rw [c11] at c123; cases c123) | (rw [c67] at c11; cases c11) | (rw [c67] at c108; cases c108) | (rw [c67] at c123; cases c123) | (rw [c108] at c11; cases c11) | (rw [c108] at c67; cases c67) | (rw [c108] at c123; cases c123) | (rw [c123] at c11; cases c11) | (rw [c123] at c67; cases c67) | (rw [c123] at c108; cases c108)) | (simp [*, giF, giN, D2]; done) | with_reducible_and_instances rfl))) O28 hf) (sub_s (sub_s (sub_s (sub_s (sub_s (sub_s (sub_n sub_nil)))))))
            · skip
              try simp only [bI_0, bI_n0, Classical.not_not, Bool.not_eq_false, Bool.true_and, Bool.and_true, decide_eq_true_eq, decide_eq_false_iff_not, dayC_1, dayC_21, dayC_221, dayC_222, inI_1, inI_2, inI_3, inI_5, inI_11, inI_16] at c123
              have n123 := c123
              replace c123 := Int32.not_le.mp c123
              refine A_iload 128 dX10_give_126 rfl rfl ?_
              refine A_goto 132 dX10_give_128 (by decide) ?_
              refine A_istore_n 133 dX10_give_132 rfl rfl (by decide) (by first | exact (ast_s (ast_s (ast_1 rfl))) | exact (ast_s (ast_s ast_k))) ?_
              first | refine A_iincN 136 dX10_give_133 rfl rfl (by decide) (by first | exact (ast_s (ast_s (ast_s (ast_s (ast_1 rfl))))) | exact (ast_s (ast_s (ast_s (ast_s ast_k))))) ?_ | refine A_iinc 136 (1) dX10_give_133 rfl rfl (by decide) (by decide) (by first | exact (ast_s (ast_s (ast_s (ast_s (ast_1 rfl))))) | exact (ast_s (ast_s (ast_s (ast_s ast_k))))) ?_
              refine A_goto 49 dX10_give_136 (by decide) ?_
              exact A_weak (ih n0 (Nat.lt_succ_self n0) (i + 1) _ _ h_7 _ (by omega) ((foldN_s (giF x (x.2.1 k_a) (x.2.1 k_b)) ((D2 x (x.2.1 k_a) (x.2.1 k_b), -9)) i).trans ((congrArg ((giF x (x.2.1 k_a) (x.2.1 k_b)) i) ee).trans (by first | with_reducible rfl | (simp only [c11, cl_a, cl_b, cl_g1, cl_g2, cl_g3, c67, c108, n108, c123, n123, if_true, if_false, ite_true, ite_false, and_true, true_and, and_false, false_and, and_self, or_true, true_or, or_false, false_or, or_self, not_true_eq_false, not_false_eq_true, decide_true, decide_false, Bool.and_true, Bool.true_and, Bool.and_false, Bool.false_and, Bool.and_self, Bool.or_true, Bool.true_or, Bool.or_false, Bool.false_or, Bool.not_true, Bool.not_false, cond_true, cond_false, bI_t, bI_f, Bool.false_eq_true, Bool.true_eq_false, dayC_1, dayC_21, dayC_221, dayC_222, giF, giN, D2]; done) | (with_reducible first | exact absurd c11 c67 | exact absurd c11 c108 | exact absurd c11 c123 | exact absurd c11 hy | exact absurd c11 hyb | exact absurd c67 c11 | exact absurd c67 c108 | exact absurd c67 c123 | exact absurd c67 hy | exact absurd c67 hyb | exact absurd c108 c11 | exact absurd c108 c67 | exact absurd c108 c123 | exact absurd c108 hy | exact absurd c108 hyb | exact absurd c123 c11 | exact absurd c123 c67 | exact absurd c123 c108 | exact absurd c123 hy | exact absurd c123 hyb | exact absurd hy c11 | exact absurd hy c67 | exact absurd hy c108 | exact absurd hy c123 | exact absurd hy hyb | exact absurd hyb c11 | exact absurd hyb c67 | exact absurd hyb c108 | exact absurd hyb c123 | exact absurd hyb hy | (rw [c11] at c67; cases c67) | (rw [c11] at c108; cases c108) | (rw [c11] at c123; cases c123) | (rw [c67] at c11; cases c11) | (rw [c67] at c108; cases c108) | (rw [c67] at c123; cases c123) | (rw [c108] at c11; cases c11) | (rw [c108] at c67; cases c67) | (rw [c108] at c123; cases c123) | (rw [c123] at c11; cases c11) | (rw [c123] at c67; cases c67) | (rw [c123] at c108; cases c108)) | (simp [*, giF, giN, D2]; done) | with_reducible_and_instances rfl))) O28 hf) (sub_s (sub_s (sub_s (sub_s (sub_s (sub_s (sub_n sub_nil)))))))
          · skip
            try simp only [bI_0, bI_n0, Classical.not_not, Bool.not_eq_false, Bool.true_and, Bool.and_true, decide_eq_true_eq, decide_eq_false_iff_not, dayC_1, dayC_21, dayC_221, dayC_222, inI_1, inI_2, inI_3, inI_5, inI_11, inI_16] at c108
            have n108 := c108
            replace c108 := Int32.not_le.mp c108
            refine A_iload 113 dX10_give_111 rfl rfl ?_
            refine A_goto 118 dX10_give_113 (by decide) ?_
            refine A_istore 120 dX10_give_118 rfl (by decide) (by first | exact (ast_s (ast_s (ast_s (ast_1 rfl)))) | exact (ast_s (ast_s (ast_s ast_k)))) ?_
            refine A_iload 122 dX10_give_120 rfl rfl ?_
            refine A_iload_n 123 dX10_give_122 rfl rfl rfl ?_
            refine A_icmp_le 131 126 dX10_give_123 (by decide) rfl (fun c123 => ?_) (fun c123 => ?_)
            · skip
              try simp only [bI_0, bI_n0, Classical.not_not, Bool.not_eq_false, Bool.true_and, Bool.and_true, decide_eq_true_eq, decide_eq_false_iff_not, dayC_1, dayC_21, dayC_221, dayC_222, inI_1, inI_2, inI_3, inI_5, inI_11, inI_16] at c123
              have n123 := c123
              replace c123 := Int32.not_lt.mpr c123
              refine A_iload_n 132 dX10_give_131 rfl rfl rfl ?_
              refine A_istore_n 133 dX10_give_132 rfl rfl (by decide) (by first | exact (ast_s (ast_s (ast_1 rfl))) | exact (ast_s (ast_s ast_k))) ?_
              first | refine A_iincN 136 dX10_give_133 rfl rfl (by decide) (by first | exact (ast_s (ast_s (ast_s (ast_s (ast_1 rfl))))) | exact (ast_s (ast_s (ast_s (ast_s ast_k))))) ?_ | refine A_iinc 136 (1) dX10_give_133 rfl rfl (by decide) (by decide) (by first | exact (ast_s (ast_s (ast_s (ast_s (ast_1 rfl))))) | exact (ast_s (ast_s (ast_s (ast_s ast_k))))) ?_
              refine A_goto 49 dX10_give_136 (by decide) ?_
              exact A_weak (ih n0 (Nat.lt_succ_self n0) (i + 1) _ _ h_7 _ (by omega) ((foldN_s (giF x (x.2.1 k_a) (x.2.1 k_b)) ((D2 x (x.2.1 k_a) (x.2.1 k_b), -9)) i).trans ((congrArg ((giF x (x.2.1 k_a) (x.2.1 k_b)) i) ee).trans (by first | with_reducible rfl | (simp only [c11, cl_a, cl_b, cl_g1, cl_g2, cl_g3, c67, c108, n108, c123, n123, if_true, if_false, ite_true, ite_false, and_true, true_and, and_false, false_and, and_self, or_true, true_or, or_false, false_or, or_self, not_true_eq_false, not_false_eq_true, decide_true, decide_false, Bool.and_true, Bool.true_and, Bool.and_false, Bool.false_and, Bool.and_self, Bool.or_true, Bool.true_or, Bool.or_false, Bool.false_or, Bool.not_true, Bool.not_false, cond_true, cond_false, bI_t, bI_f, Bool.false_eq_true, Bool.true_eq_false, dayC_1, dayC_21, dayC_221, dayC_222, giF, giN, D2]; done) | (with_reducible first | exact absurd c11 c67 | exact absurd c11 c108 | exact absurd c11 c123 | exact absurd c11 hy | exact absurd c11 hyb | exact absurd c67 c11 | exact absurd c67 c108 | exact absurd c67 c123 | exact absurd c67 hy | exact absurd c67 hyb | exact absurd c108 c11 | exact absurd c108 c67 | exact absurd c108 c123 | exact absurd c108 hy | exact absurd c108 hyb | exact absurd c123 c11 | exact absurd c123 c67 | exact absurd c123 c108 | exact absurd c123 hy | exact absurd c123 hyb | exact absurd hy c11 | exact absurd hy c67 | exact absurd hy c108 | exact absurd hy c123 | exact absurd hy hyb | exact absurd hyb c11 | exact absurd hyb c67 | exact absurd hyb c108 | exact absurd hyb c123 | exact absurd hyb hy | (rw [c11] at c67; cases c67) | (rw [c11] at c108; cases c108) | (rw [c11] at c123; cases c123) | (rw [c67] at c11; cases c11) | (rw [c67] at c108; cases c108) | (rw [c67] at c123; cases c123) | (rw [c108] at c11; cases c11) | (rw [c108] at c67; cases c67) | (rw [c108] at c123; cases c123) | (rw [c123] at c11; cases c11) | (rw [c123] at c67; cases c67) | (rw [c123] at c108; cases c108)) | (simp [*, giF, giN, D2]; done) | with_reducible_and_instances rfl))) O28 hf) (sub_s (sub_s (sub_s (sub_s (sub_s (sub_s (sub_n sub_nil)))))))
            · skip
              try simp only [bI_0, bI_n0, Classical.not_not, Bool.not_eq_false, Bool.true_and, Bool.and_true, decide_eq_true_eq, decide_eq_false_iff_not, dayC_1, dayC_21, dayC_221, dayC_222, inI_1, inI_2, inI_3, inI_5, inI_11, inI_16] at c123
              have n123 := c123
              replace c123 := Int32.not_le.mp c123
              refine A_iload 128 dX10_give_126 rfl rfl ?_
              refine A_goto 132 dX10_give_128 (by decide) ?_
              refine A_istore_n 133 dX10_give_132 rfl rfl (by decide) (by first | exact (ast_s (ast_s (ast_1 rfl))) | exact (ast_s (ast_s ast_k))) ?_
              first | refine A_iincN 136 dX10_give_133 rfl rfl (by decide) (by first | exact (ast_s (ast_s (ast_s (ast_s (ast_1 rfl))))) | exact (ast_s (ast_s (ast_s (ast_s ast_k))))) ?_ | refine A_iinc 136 (1) dX10_give_133 rfl rfl (by decide) (by decide) (by first | exact (ast_s (ast_s (ast_s (ast_s (ast_1 rfl))))) | exact (ast_s (ast_s (ast_s (ast_s ast_k))))) ?_
              refine A_goto 49 dX10_give_136 (by decide) ?_
              exact A_weak (ih n0 (Nat.lt_succ_self n0) (i + 1) _ _ h_7 _ (by omega) ((foldN_s (giF x (x.2.1 k_a) (x.2.1 k_b)) ((D2 x (x.2.1 k_a) (x.2.1 k_b), -9)) i).trans ((congrArg ((giF x (x.2.1 k_a) (x.2.1 k_b)) i) ee).trans (by first | with_reducible rfl | (simp only [c11, cl_a, cl_b, cl_g1, cl_g2, cl_g3, c67, c108, n108, c123, n123, if_true, if_false, ite_true, ite_false, and_true, true_and, and_false, false_and, and_self, or_true, true_or, or_false, false_or, or_self, not_true_eq_false, not_false_eq_true, decide_true, decide_false, Bool.and_true, Bool.true_and, Bool.and_false, Bool.false_and, Bool.and_self, Bool.or_true, Bool.true_or, Bool.or_false, Bool.false_or, Bool.not_true, Bool.not_false, cond_true, cond_false, bI_t, bI_f, Bool.false_eq_true, Bool.true_eq_false, dayC_1, dayC_21, dayC_221, dayC_222, giF, giN, D2]; done) | (with_reducible first | exact absurd c11 c67 | exact absurd c11 c108 | exact absurd c11 c123 | exact absurd c11 hy | exact absurd c11 hyb | exact absurd c67 c11 | exact absurd c67 c108 | exact absurd c67 c123 | exact absurd c67 hy | exact absurd c67 hyb | exact absurd c108 c11 | exact absurd c108 c67 | exact absurd c108 c123 | exact absurd c108 hy | exact absurd c108 hyb | exact absurd c123 c11 | exact absurd c123 c67 | exact absurd c123 c108 | exact absurd c123 hy | exact absurd c123 hyb | exact absurd hy c11 | exact absurd hy c67 | exact absurd hy c108 | exact absurd hy c123 | exact absurd hy hyb | exact absurd hyb c11 | exact absurd hyb c67 | exact absurd hyb c108 | exact absurd hyb c123 | exact absurd hyb hy | (rw [c11] at c67; cases c67) | (rw [c11] at c108; cases c108) | (rw [c11] at c123; cases c123) | (rw [c67] at c11; cases c11) | (rw [c67] at c108; cases c108) | (rw [c67] at c123; cases c123) | (rw [c108] at c11; cases c11) | (rw [c108] at c67; cases c67) | (rw [c108] at c123; cases c123) | (rw [c123] at c11; cases c11) | (rw [c123] at c67; cases c67) | (rw [c123] at c108; cases c108)) | (simp [*, giF, giN, D2]; done) | with_reducible_and_instances rfl))) O28 hf) (sub_s (sub_s (sub_s (sub_s (sub_s (sub_s (sub_n sub_nil)))))))
    exact A_weak (L49 (8) (0) (_) (_) h_4 (_) (by omega) (rfl) O28 hf) (sub_s (sub_s (sub_s (sub_s (sub_s (sub_s (sub_n sub_nil)))))))
  · skip
    try simp only [bI_0, bI_n0, Classical.not_not, Bool.not_eq_false, Bool.true_and, Bool.and_true, decide_eq_true_eq, decide_eq_false_iff_not, dayC_1, dayC_21, dayC_221, dayC_222, inI_1, inI_2, inI_3, inI_5, inI_11, inI_16] at c11
    have cl_f : wAB x a b = -1 := if_neg (twoQ_f c11)
    refine A_aload_n 15 dX10_give_14 rfl rfl rfl ?_
    refine A_iconst 16 (-1) dX10_give_15 rfl (by decide) ?_
    refine A_callVI 19 (S_X10_refuse_c X l (by first | assumption | decide | omega | exact Ne.symm (by assumption)) (by first | assumption | (unfold CD; decide))) dX10_give_16 rfl kX10_refuse lk_X10_121 rfl O28 (by decide) rfl (Nat.le_of_ble_eq_true rfl) (fun v_8 h_8 qh_8 => ?_)
    obtain ⟨rfl, n0h_8, eh_8⟩ := qh_8
    replace O28 := n0h_8
    replace hf : ∀ i, i ≠ 28 → h_8 i = h i := fun i g0 => (eh_8 i g0).trans (hf i g0)
    have ew : wAB x a b = -1 := by
      first | (simp only [c11, cl_f, if_true, if_false, ite_true, ite_false, and_true, true_and, and_false, false_and, and_self, or_true, true_or, or_false, false_or, or_self, not_true_eq_false, not_false_eq_true, decide_true, decide_false, Bool.and_true, Bool.true_and, Bool.and_false, Bool.false_and, Bool.and_self, Bool.or_true, Bool.true_or, Bool.or_false, Bool.false_or, Bool.not_true, Bool.not_false, cond_true, cond_false, bI_t, bI_f, Bool.false_eq_true, Bool.true_eq_false, dayC_1, dayC_21, dayC_221, dayC_222, w01, wP, wPL, wP01, wL01, wRow, w01R, wAB, wNum, isP, isL]; done) | exact cl_f
    refine A_iret dX10_give_19 rfl ⟨_, rfl, (by rw [ew]; exact rV_n (by decide)), _, (by rw [ew]; first | (rw [rS_0]; exact O28) | exact O28), hf⟩
set_option maxHeartbeats 4000000 in
set_option maxRecDepth 100000 in
theorem S_X10_trade (X : En) (l : Launch) {h : Hp} {x : PW} {c : RC} {z : RZ} (O28 : h 28 = some (rB x (-1) c z)) (hW : WOK x)  {a b v : Int32} : Ct X l mX10_trade [aR 28 0, aI a, aI b, aI v] h (QI (fun vr h2 => (rV (wTrade x a b v) (aTrade x a b v)) = vr ∧ ∃ (z1 : RZ), h2 (28) = some (rB x (-1) (rS (wTrade x a b v) c.1, c.2) z1) ∧ ∀ i, i ≠ 28 → h2 i = h i)) := by
  have hx := hW.1
  have hp := hW.2.1
  have h10 := hx.1
  have hf : ∀ i, i ≠ 28 → h i = h i := fun _ _ => rfl
  refine Ct.intro [some (aR 28 0), some (aI a), some (aI b), some (aI v), none, none, none, none, none, none] (by decide +kernel) rfl (Nat.le_of_ble_eq_true rfl) ?_
  refine A_aload_n 1 dX10_trade_0 rfl rfl rfl ?_
  refine A_iconst 2 (0) dX10_trade_1 rfl (by decide) ?_
  refine P_X10_9 5 dX10_trade_2 rfl fw_X10_78 O28 (fun h_1 nh_1 eh_1 => ?_)
  replace O28 := nh_1
  replace hf : ∀ i, i ≠ 28 → h_1 i = h i := fun i g0 => (eh_1 i g0).trans (hf i g0)
  try dsimp only at O28
  refine A_joinI 24 (fun vj => vj = wTrade x a b v) (fun j24 => ?_) (fun v24 e24 => ?_)
  · skip
    refine A_aload_n 6 dX10_trade_5 rfl rfl rfl ?_
    refine A_iload_n 7 dX10_trade_6 rfl rfl rfl ?_
    refine A_iload_n 8 dX10_trade_7 rfl rfl rfl ?_
    refine A_callVI 11 (S_X10_areTwo X l (by first | assumption | decide | omega | exact Ne.symm (by assumption)) (by first | assumption | decide | omega | exact Ne.symm (by assumption))) dX10_trade_8 rfl kX10_areTwo lk_X10_270 rfl O28 (by decide) rfl (Nat.le_of_ble_eq_true rfl) (fun v_2 h_2 qh_2 => ?_)
    obtain ⟨rfl, rfl⟩ := qh_2
    refine A_if_eq 23 14 dX10_trade_11 (by decide) rfl (fun c11 => ?_) (fun c11 => ?_)
    · skip
      try simp only [bI_0, bI_n0, Classical.not_not, Bool.not_eq_false, Bool.true_and, Bool.and_true, decide_eq_true_eq, decide_eq_false_iff_not, dayC_1, dayC_21, dayC_221, dayC_222, inI_1, inI_2, inI_3, inI_5, inI_11, inI_16] at c11
      refine A_iconst 24 (-1) dX10_trade_23 rfl (by decide) ?_
      exact j24 _ (by rw [wTrade_q]; first | (simp only [c11, if_true, if_false, ite_true, ite_false, and_true, true_and, and_false, false_and, and_self, or_true, true_or, or_false, false_or, or_self, not_true_eq_false, not_false_eq_true, decide_true, decide_false, Bool.and_true, Bool.true_and, Bool.and_false, Bool.false_and, Bool.and_self, Bool.or_true, Bool.true_or, Bool.or_false, Bool.false_or, Bool.not_true, Bool.not_false, cond_true, cond_false, bI_t, bI_f, Bool.false_eq_true, Bool.true_eq_false, dayC_1, dayC_21, dayC_221, dayC_222, wrB_0, w01]; done))
    · skip
      try simp only [bI_0, bI_n0, Classical.not_not, Bool.not_eq_false, Bool.true_and, Bool.and_true, decide_eq_true_eq, decide_eq_false_iff_not, dayC_1, dayC_21, dayC_221, dayC_222, inI_1, inI_2, inI_3, inI_5, inI_11, inI_16] at c11
      refine A_iconst 15 (0) dX10_trade_14 rfl (by decide) ?_
      refine A_iload_n 16 dX10_trade_15 rfl rfl rfl ?_
      refine A_iconst 17 (1) dX10_trade_16 rfl (by decide) ?_
      refine A_callSI 20 (S_X10_wrongBit X l) dX10_trade_17 rfl kX10_wrongBit lk_X10_225 rfl (by decide) rfl (Nat.le_of_ble_eq_true rfl) (fun v_3 h_3 qh_3 => ?_)
      obtain ⟨rfl, rfl⟩ := qh_3
      refine A_goto 24 dX10_trade_20 (by decide) ?_
      exact j24 _ (by rw [wTrade_q]; first | (simp only [c11, if_true, if_false, ite_true, ite_false, and_true, true_and, and_false, false_and, and_self, or_true, true_or, or_false, false_or, or_self, not_true_eq_false, not_false_eq_true, decide_true, decide_false, Bool.and_true, Bool.true_and, Bool.and_false, Bool.false_and, Bool.and_self, Bool.or_true, Bool.true_or, Bool.or_false, Bool.false_or, Bool.not_true, Bool.not_false, cond_true, cond_false, bI_t, bI_f, Bool.false_eq_true, Bool.true_eq_false, dayC_1, dayC_21, dayC_221, dayC_222, wrB_0, w01]; done))
  subst e24
  refine A_istore 26 dX10_trade_24 rfl (by decide) (by first | exact (ast_s (ast_s (ast_s (ast_1 rfl)))) | exact (ast_s (ast_s (ast_s ast_k)))) ?_
  refine A_iload 28 dX10_trade_26 rfl rfl ?_
  refine A_if_ge 38 31 dX10_trade_28 (by decide) rfl (fun c28 => ?_) (fun c28 => ?_)
  · skip
    try simp only [bI_0, bI_n0, Classical.not_not, Bool.not_eq_false, Bool.true_and, Bool.and_true, decide_eq_true_eq, decide_eq_false_iff_not, dayC_1, dayC_21, dayC_221, dayC_222, inI_1, inI_2, inI_3, inI_5, inI_11, inI_16] at c28
    have n28 := c28
    replace c28 := Int32.not_lt.mpr c28
    have hw0 : wTrade x a b v = 0 := cz_pos wTrade_cz c28
    obtain ⟨⟨g1, g2, g3⟩, f4⟩ := wTrade_0 hw0
    obtain ⟨k_a, rfl, hk_a⟩ := inN_ex g1 (by omega)
    have cl_a : (nI k_a).toNatClampNeg = k_a := nI_clamp (by omega)
    have hk6_a : k_a < 6 := by omega
    obtain ⟨k_b, rfl, hk_b⟩ := inN_ex g2 (by omega)
    have cl_b : (nI k_b).toNatClampNeg = k_b := nI_clamp (by omega)
    have hk6_b : k_b < 6 := by omega
    refine A_aload_n 39 dX10_trade_38 rfl rfl rfl ?_
    refine A_aload_n 40 dX10_trade_39 rfl rfl rfl ?_
    refine A_getfield 43 dX10_trade_40 rfl f_X10_22 O28 rfl ?_
    refine A_iload_n 44 dX10_trade_43 rfl rfl rfl ?_
    refine A_iaload 45 dX10_trade_44 rfl O28 rfl (by first | assumption | exact ix_nI (by omega) (by decide) | exact ix_lit _ rfl (by omega) (by decide) | exact ix_lit _ rfl (by decide) (by decide)) ?_
    try dsimp only
    refine A_callVI 48 (S_X10_manyBy_n X l (by first | assumption | decide | omega | exact Ne.symm (by assumption)) (by first | assumption | decide | omega | exact Ne.symm (by assumption))) dX10_trade_45 rfl kX10_manyBy lk_X10_233 rfl O28 (by decide) rfl (Nat.le_of_ble_eq_true rfl) (fun v_4 h_4 qh_4 => ?_)
    obtain ⟨rfl, n0h_4, eh_4⟩ := qh_4
    replace O28 := n0h_4
    replace hf : ∀ i, i ≠ 28 → h_4 i = h i := fun i g0 => (eh_4 i g0).trans (hf i g0)
    refine A_aload_n 49 dX10_trade_48 rfl rfl rfl ?_
    refine A_aload_n 50 dX10_trade_49 rfl rfl rfl ?_
    refine A_getfield 53 dX10_trade_50 rfl f_X10_22 O28 rfl ?_
    refine A_iload_n 54 dX10_trade_53 rfl rfl rfl ?_
    refine A_iaload 55 dX10_trade_54 rfl O28 rfl (by first | assumption | exact ix_nI (by omega) (by decide) | exact ix_lit _ rfl (by omega) (by decide) | exact ix_lit _ rfl (by decide) (by decide)) ?_
    try dsimp only
    refine A_callVI 58 (S_X10_manyBy_n X l (by first | assumption | decide | omega | exact Ne.symm (by assumption)) (by first | assumption | decide | omega | exact Ne.symm (by assumption))) dX10_trade_55 rfl kX10_manyBy lk_X10_233 rfl O28 (by decide) rfl (Nat.le_of_ble_eq_true rfl) (fun v_5 h_5 qh_5 => ?_)
    obtain ⟨rfl, n0h_5, eh_5⟩ := qh_5
    replace O28 := n0h_5
    replace hf : ∀ i, i ≠ 28 → h_5 i = h i := fun i g0 => (eh_5 i g0).trans (hf i g0)
    refine A_iadd 59 dX10_trade_58 rfl ?_
    refine A_istore 61 dX10_trade_59 rfl (by decide) (by first | exact (ast_s (ast_s (ast_s (ast_s (ast_1 rfl))))) | exact (ast_s (ast_s (ast_s (ast_s ast_k))))) ?_
    refine A_bipush 63 (88) dX10_trade_61 rfl (by decide) ?_
    refine A_istore 65 dX10_trade_63 rfl (by decide) (by first | exact (ast_s (ast_s (ast_s (ast_s (ast_s (ast_1 rfl)))))) | exact (ast_s (ast_s (ast_s (ast_s (ast_s ast_k)))))) ?_
    refine A_iconst 66 (0) dX10_trade_65 rfl (by decide) ?_
    refine A_istore 68 dX10_trade_66 rfl (by decide) (by first | exact (ast_s (ast_s (ast_s (ast_s (ast_s (ast_s (ast_1 rfl))))))) | exact (ast_s (ast_s (ast_s (ast_s (ast_s (ast_s ast_k))))))) ?_
    have L68 : ∀ (nq i : Nat) (m u : Int32) (g68 : Hp) (z2 : RZ), (nq + i = 8) → (foldN (trO x (x.2.1 k_a) (x.2.1 k_b)) ((D2 x (x.2.1 k_a) (x.2.1 k_b), 88)) i = (m, u)) → (g68 28 = some (rB x (-1) c z2)) → (∀ i, i ≠ 28 → g68 i = h i) → Av X l mX10_trade 68 [some (aR 28 0), some (aI (nI (k_a))), some (aI (nI (k_b))), some (aI (v)), none, some (aI (m)), some (aI (u)), some (aI (nI (i))), none, none] [] g68 (QI (fun vr h2 => (rV (wTrade x (nI k_a) (nI k_b) v) (aTrade x (nI k_a) (nI k_b) v)) = vr ∧ ∃ (z1 : RZ), h2 (28) = some (rB x (-1) (rS (wTrade x (nI k_a) (nI k_b) v) c.1, c.2) z1) ∧ ∀ i, i ≠ 28 → h2 i = h i)) := by
      intro nq
      induction nq using Nat.strongRecOn with
      | _ nq ih =>
      intro i m u g68 z2 en ee O28 hf
      refine A_iload 70 dX10_trade_68 rfl rfl ?_
      refine A_bipush 72 (8) dX10_trade_70 rfl (by decide) ?_
      refine A_icmp_ge 210 75 dX10_trade_72 (by decide) rfl (fun c72 => ?_) (fun c72 => ?_)
      · skip
        obtain rfl := (up_ge_T (N := 8) c72 rfl (by omega) (by omega)).symm
        refine A_iload_n 211 dX10_trade_210 rfl rfl rfl ?_
        refine A_if_ne 219 214 dX10_trade_211 (by decide) rfl (fun c211 => ?_) (fun c211 => ?_)
        · skip
          try simp only [bI_0, bI_n0, Classical.not_not, Bool.not_eq_false, Bool.true_and, Bool.and_true, decide_eq_true_eq, decide_eq_false_iff_not, dayC_1, dayC_21, dayC_221, dayC_222, inI_1, inI_2, inI_3, inI_5, inI_11, inI_16] at c211
          refine A_iload 221 dX10_trade_219 rfl rfl ?_
          refine A_iret dX10_trade_221 rfl ⟨_, rfl, (by rw [hw0, rV_0]; unfold aTrade TR pk; rw [cl_a, cl_b, ee]; first | rw [if_pos c211] | rw [if_neg c211]), _, (by rw [hw0, rS_0]; exact O28), hf⟩
        · skip
          try simp only [bI_0, bI_n0, Classical.not_not, Bool.not_eq_false, Bool.true_and, Bool.and_true, decide_eq_true_eq, decide_eq_false_iff_not, dayC_1, dayC_21, dayC_221, dayC_222, inI_1, inI_2, inI_3, inI_5, inI_11, inI_16] at c211
          refine A_iload 216 dX10_trade_214 rfl rfl ?_
          refine A_goto 221 dX10_trade_216 (by decide) ?_
          refine A_iret dX10_trade_221 rfl ⟨_, rfl, (by rw [hw0, rV_0]; unfold aTrade TR pk; rw [cl_a, cl_b, ee]; first | rw [if_pos c211] | rw [if_neg c211]), _, (by rw [hw0, rS_0]; exact O28), hf⟩
      · skip
        have hi := up_ge_F (N := 8) c72 rfl (by omega) (by omega)
        obtain ⟨n0, rfl⟩ : ∃ q, nq = q + 1 := ⟨nq - 1, by omega⟩
        refine A_iconst 76 (0) dX10_trade_75 rfl (by decide) ?_
        refine A_istore 78 dX10_trade_76 rfl (by decide) (by first | exact (ast_s (ast_s (ast_s (ast_s (ast_s (ast_s (ast_s (ast_1 rfl)))))))) | exact (ast_s (ast_s (ast_s (ast_s (ast_s (ast_s (ast_s ast_k)))))))) ?_
        have L78 : ∀ (nqb j : Nat) (m2 u2 : Int32) (g78 : Hp) (z2 : RZ), (nqb + j = 8) → (foldN (trJ x (x.2.1 k_a) (x.2.1 k_b) i) ((m, u)) j = (m2, u2)) → (g78 28 = some (rB x (-1) c z2)) → (∀ i, i ≠ 28 → g78 i = h i) → Av X l mX10_trade 78 [some (aR 28 0), some (aI (nI (k_a))), some (aI (nI (k_b))), some (aI (v)), none, some (aI (m2)), some (aI (u2)), some (aI (nI (i))), some (aI (nI (j))), none] [] g78 (QI (fun vr h2 => (rV (wTrade x (nI k_a) (nI k_b) v) (aTrade x (nI k_a) (nI k_b) v)) = vr ∧ ∃ (z1 : RZ), h2 (28) = some (rB x (-1) (rS (wTrade x (nI k_a) (nI k_b) v) c.1, c.2) z1) ∧ ∀ i, i ≠ 28 → h2 i = h i)) := by
          intro nqb
          induction nqb using Nat.strongRecOn with
          | _ nqb ihb =>
          intro j m2 u2 g78 z2 enb eeb O28 hf
          refine A_iload 80 dX10_trade_78 rfl rfl ?_
          refine A_bipush 82 (8) dX10_trade_80 rfl (by decide) ?_
          refine A_icmp_ge 204 85 dX10_trade_82 (by decide) rfl (fun c82 => ?_) (fun c82 => ?_)
          · skip
            obtain rfl := (up_ge_T (N := 8) c82 rfl (by omega) (by omega)).symm
            first | refine A_iincN 207 dX10_trade_204 rfl rfl (by decide) (by first | exact (ast_s (ast_s (ast_s (ast_s (ast_s (ast_s (ast_1 rfl))))))) | exact (ast_s (ast_s (ast_s (ast_s (ast_s (ast_s ast_k))))))) ?_ | refine A_iinc 207 (1) dX10_trade_204 rfl rfl (by decide) (by decide) (by first | exact (ast_s (ast_s (ast_s (ast_s (ast_s (ast_s (ast_1 rfl))))))) | exact (ast_s (ast_s (ast_s (ast_s (ast_s (ast_s ast_k))))))) ?_
            refine A_goto 68 dX10_trade_207 (by decide) ?_
            exact A_weak (ih n0 (Nat.lt_succ_self n0) (i + 1) _ _ g78 _ (by omega) ((foldN_s (trO x (x.2.1 k_a) (x.2.1 k_b)) ((D2 x (x.2.1 k_a) (x.2.1 k_b), 88)) i).trans ((congrArg ((trO x (x.2.1 k_a) (x.2.1 k_b)) i) ee).trans (by exact (trO_J _ _ _ _ _).symm.trans eeb))) O28 hf) (sub_s (sub_s (sub_s (sub_s (sub_n (sub_s (sub_s (sub_s (sub_n (sub_n sub_nil))))))))))
          · skip
            have hib := up_ge_F (N := 8) c82 rfl (by omega) (by omega)
            obtain ⟨n0b, rfl⟩ : ∃ q, nqb = q + 1 := ⟨nqb - 1, by omega⟩
            refine A_aload_n 86 dX10_trade_85 rfl rfl rfl ?_
            refine A_getfield 89 dX10_trade_86 rfl f_X10_22 O28 rfl ?_
            refine A_iload_n 90 dX10_trade_89 rfl rfl rfl ?_
            refine A_iaload 91 dX10_trade_90 rfl O28 rfl (by first | assumption | exact ix_nI (by omega) (by decide) | exact ix_lit _ rfl (by omega) (by decide) | exact ix_lit _ rfl (by decide) (by decide)) ?_
            try dsimp only
            refine A_iload 93 dX10_trade_91 rfl rfl ?_
            refine A_callSI 96 (S_X10_hasBit X l) dX10_trade_93 rfl kX10_hasBit lk_X10_93 rfl (by decide) rfl (Nat.le_of_ble_eq_true rfl) (fun v_6 h_6 qh_6 => ?_)
            obtain ⟨rfl, rfl⟩ := qh_6
            refine A_if_eq 198 99 dX10_trade_96 (by decide) rfl (fun c96 => ?_) (fun c96 => ?_)
            · skip
              try simp only [bI_0, bI_n0, Classical.not_not, Bool.not_eq_false, Bool.true_and, Bool.and_true, decide_eq_true_eq, decide_eq_false_iff_not, dayC_1, dayC_21, dayC_221, dayC_222, inI_1, inI_2, inI_3, inI_5, inI_11, inI_16] at c96
              first | refine A_iincN 201 dX10_trade_198 rfl rfl (by decide) (by first | exact (ast_s (ast_s (ast_s (ast_s (ast_s (ast_s (ast_s (ast_1 rfl)))))))) | exact (ast_s (ast_s (ast_s (ast_s (ast_s (ast_s (ast_s ast_k)))))))) ?_ | refine A_iinc 201 (1) dX10_trade_198 rfl rfl (by decide) (by decide) (by first | exact (ast_s (ast_s (ast_s (ast_s (ast_s (ast_s (ast_s (ast_1 rfl)))))))) | exact (ast_s (ast_s (ast_s (ast_s (ast_s (ast_s (ast_s ast_k)))))))) ?_
              refine A_goto 78 dX10_trade_201 (by decide) ?_
              exact A_weak (ihb n0b (Nat.lt_succ_self n0b) (j + 1) _ _ g78 _ (by omega) ((foldN_s (trJ x (x.2.1 k_a) (x.2.1 k_b) i) ((m, u)) j).trans ((congrArg ((trJ x (x.2.1 k_a) (x.2.1 k_b) i) j) eeb).trans (by first | with_reducible rfl | (simp only [c28, n28, cl_a, cl_b, c96, if_true, if_false, ite_true, ite_false, and_true, true_and, and_false, false_and, and_self, or_true, true_or, or_false, false_or, or_self, not_true_eq_false, not_false_eq_true, decide_true, decide_false, Bool.and_true, Bool.true_and, Bool.and_false, Bool.false_and, Bool.and_self, Bool.or_true, Bool.true_or, Bool.or_false, Bool.false_or, Bool.not_true, Bool.not_false, cond_true, cond_false, bI_t, bI_f, Bool.false_eq_true, Bool.true_eq_false, dayC_1, dayC_21, dayC_221, dayC_222, trJ, trN, D2]; done) | (with_reducible first | exact absurd c28 c96 | exact absurd c28 hy | exact absurd c28 hyb | exact absurd c96 c28 | exact absurd c96 hy | exact absurd c96 hyb | exact absurd hy c28 | exact absurd hy c96 | exact absurd hy hyb | exact absurd hyb c28 | exact absurd hyb c96 | exact absurd hyb hy | (rw [c28] at c96; cases c96) | (rw [c96] at c28; cases c28)) | (simp [*, trJ, trN, D2]; done) | with_reducible_and_instances rfl))) O28 hf) (sub_s (sub_s (sub_s (sub_s (sub_n (sub_s (sub_s (sub_s (sub_s (sub_n sub_nil))))))))))
            · skip
              try simp only [bI_0, bI_n0, Classical.not_not, Bool.not_eq_false, Bool.true_and, Bool.and_true, decide_eq_true_eq, decide_eq_false_iff_not, dayC_1, dayC_21, dayC_221, dayC_222, inI_1, inI_2, inI_3, inI_5, inI_11, inI_16] at c96
              refine A_aload_n 100 dX10_trade_99 rfl rfl rfl ?_
              refine A_getfield 103 dX10_trade_100 rfl f_X10_22 O28 rfl ?_
              refine A_iload_n 104 dX10_trade_103 rfl rfl rfl ?_
              refine A_iaload 105 dX10_trade_104 rfl O28 rfl (by first | assumption | exact ix_nI (by omega) (by decide) | exact ix_lit _ rfl (by omega) (by decide) | exact ix_lit _ rfl (by decide) (by decide)) ?_
              try dsimp only
              refine A_iload 107 dX10_trade_105 rfl rfl ?_
              refine A_callSI 110 (S_X10_hasBit X l) dX10_trade_107 rfl kX10_hasBit lk_X10_93 rfl (by decide) rfl (Nat.le_of_ble_eq_true rfl) (fun v_7 h_7 qh_7 => ?_)
              obtain ⟨rfl, rfl⟩ := qh_7
              refine A_if_eq 198 113 dX10_trade_110 (by decide) rfl (fun c110 => ?_) (fun c110 => ?_)
              · skip
                try simp only [bI_0, bI_n0, Classical.not_not, Bool.not_eq_false, Bool.true_and, Bool.and_true, decide_eq_true_eq, decide_eq_false_iff_not, dayC_1, dayC_21, dayC_221, dayC_222, inI_1, inI_2, inI_3, inI_5, inI_11, inI_16] at c110
                first | refine A_iincN 201 dX10_trade_198 rfl rfl (by decide) (by first | exact (ast_s (ast_s (ast_s (ast_s (ast_s (ast_s (ast_s (ast_1 rfl)))))))) | exact (ast_s (ast_s (ast_s (ast_s (ast_s (ast_s (ast_s ast_k)))))))) ?_ | refine A_iinc 201 (1) dX10_trade_198 rfl rfl (by decide) (by decide) (by first | exact (ast_s (ast_s (ast_s (ast_s (ast_s (ast_s (ast_s (ast_1 rfl)))))))) | exact (ast_s (ast_s (ast_s (ast_s (ast_s (ast_s (ast_s ast_k)))))))) ?_
                refine A_goto 78 dX10_trade_201 (by decide) ?_
                exact A_weak (ihb n0b (Nat.lt_succ_self n0b) (j + 1) _ _ g78 _ (by omega) ((foldN_s (trJ x (x.2.1 k_a) (x.2.1 k_b) i) ((m, u)) j).trans ((congrArg ((trJ x (x.2.1 k_a) (x.2.1 k_b) i) j) eeb).trans (by first | with_reducible rfl | (simp only [c28, n28, cl_a, cl_b, c96, c110, if_true, if_false, ite_true, ite_false, and_true, true_and, and_false, false_and, and_self, or_true, true_or, or_false, false_or, or_self, not_true_eq_false, not_false_eq_true, decide_true, decide_false, Bool.and_true, Bool.true_and, Bool.and_false, Bool.false_and, Bool.and_self, Bool.or_true, Bool.true_or, Bool.or_false, Bool.false_or, Bool.not_true, Bool.not_false, cond_true, cond_false, bI_t, bI_f, Bool.false_eq_true, Bool.true_eq_false, dayC_1, dayC_21, dayC_221, dayC_222, trJ, trN, D2]; done) | (with_reducible first | exact absurd c28 c96 | exact absurd c28 c110 | exact absurd c28 hy | exact absurd c28 hyb | exact absurd c96 c28 | exact absurd c96 c110 | exact absurd c96 hy | exact absurd c96 hyb | exact absurd c110 c28 | exact absurd c110 c96 | exact absurd c110 hy | exact absurd c110 hyb | exact absurd hy c28 | exact absurd hy c96 | exact absurd hy c110 | exact absurd hy hyb | exact absurd hyb c28 | exact absurd hyb c96 | exact absurd hyb c110 | exact absurd hyb hy | (rw [c28] at c96; cases c96) | (rw [c28] at c110; cases c110) | (rw [c96] at c28; cases c28) | (rw [c96] at c110; cases c110) | (rw [c110] at c28; cases c28) | (rw [c110] at c96; cases c96)) | (simp [*, trJ, trN, D2]; done) | with_reducible_and_instances rfl))) O28 hf) (sub_s (sub_s (sub_s (sub_s (sub_n (sub_s (sub_s (sub_s (sub_s (sub_n sub_nil))))))))))
              · skip
                try simp only [bI_0, bI_n0, Classical.not_not, Bool.not_eq_false, Bool.true_and, Bool.and_true, decide_eq_true_eq, decide_eq_false_iff_not, dayC_1, dayC_21, dayC_221, dayC_222, inI_1, inI_2, inI_3, inI_5, inI_11, inI_16] at c110
                refine A_aload_n 114 dX10_trade_113 rfl rfl rfl ?_
                refine A_aload_n 115 dX10_trade_114 rfl rfl rfl ?_
                refine A_getfield 118 dX10_trade_115 rfl f_X10_22 O28 rfl ?_
                refine A_iload_n 119 dX10_trade_118 rfl rfl rfl ?_
                refine A_iaload 120 dX10_trade_119 rfl O28 rfl (by first | assumption | exact ix_nI (by omega) (by decide) | exact ix_lit _ rfl (by omega) (by decide) | exact ix_lit _ rfl (by decide) (by decide)) ?_
                try dsimp only
                refine A_iconst 121 (1) dX10_trade_120 rfl (by decide) ?_
                refine A_iload 123 dX10_trade_121 rfl rfl ?_
                refine A_ishl 124 dX10_trade_123 rfl ?_
                rw [sh_tb hi]
                refine A_iconst 125 (-1) dX10_trade_124 rfl (by decide) ?_
                refine A_ixor 126 dX10_trade_125 rfl ?_
                refine A_iand 127 dX10_trade_126 rfl ?_
                refine A_iconst 128 (1) dX10_trade_127 rfl (by decide) ?_
                refine A_iload 130 dX10_trade_128 rfl rfl ?_
                refine A_ishl 131 dX10_trade_130 rfl ?_
                rw [sh_tb hib]
                refine A_ior 132 dX10_trade_131 rfl ?_
                refine A_callVI 135 (S_X10_manyBy_n X l (by first | assumption | decide | omega | exact Ne.symm (by assumption)) (by first | assumption | decide | omega | exact Ne.symm (by assumption))) dX10_trade_132 rfl kX10_manyBy lk_X10_233 rfl O28 (by decide) rfl (Nat.le_of_ble_eq_true rfl) (fun v_8 h_8 qh_8 => ?_)
                obtain ⟨rfl, n0h_8, eh_8⟩ := qh_8
                replace O28 := n0h_8
                replace hf : ∀ i, i ≠ 28 → h_8 i = h i := fun i g0 => (eh_8 i g0).trans (hf i g0)
                refine A_aload_n 136 dX10_trade_135 rfl rfl rfl ?_
                refine A_aload_n 137 dX10_trade_136 rfl rfl rfl ?_
                refine A_getfield 140 dX10_trade_137 rfl f_X10_22 O28 rfl ?_
                refine A_iload_n 141 dX10_trade_140 rfl rfl rfl ?_
                refine A_iaload 142 dX10_trade_141 rfl O28 rfl (by first | assumption | exact ix_nI (by omega) (by decide) | exact ix_lit _ rfl (by omega) (by decide) | exact ix_lit _ rfl (by decide) (by decide)) ?_
                try dsimp only
                refine A_iconst 143 (1) dX10_trade_142 rfl (by decide) ?_
                refine A_iload 145 dX10_trade_143 rfl rfl ?_
                refine A_ishl 146 dX10_trade_145 rfl ?_
                rw [sh_tb hib]
                refine A_iconst 147 (-1) dX10_trade_146 rfl (by decide) ?_
                refine A_ixor 148 dX10_trade_147 rfl ?_
                refine A_iand 149 dX10_trade_148 rfl ?_
                refine A_iconst 150 (1) dX10_trade_149 rfl (by decide) ?_
                refine A_iload 152 dX10_trade_150 rfl rfl ?_
                refine A_ishl 153 dX10_trade_152 rfl ?_
                rw [sh_tb hi]
                refine A_ior 154 dX10_trade_153 rfl ?_
                refine A_callVI 157 (S_X10_manyBy_n X l (by first | assumption | decide | omega | exact Ne.symm (by assumption)) (by first | assumption | decide | omega | exact Ne.symm (by assumption))) dX10_trade_154 rfl kX10_manyBy lk_X10_233 rfl O28 (by decide) rfl (Nat.le_of_ble_eq_true rfl) (fun v_9 h_9 qh_9 => ?_)
                obtain ⟨rfl, n0h_9, eh_9⟩ := qh_9
                replace O28 := n0h_9
                replace hf : ∀ i, i ≠ 28 → h_9 i = h i := fun i g0 => (eh_9 i g0).trans (hf i g0)
                refine A_iadd 158 dX10_trade_157 rfl ?_
                refine A_istore 160 dX10_trade_158 rfl (by decide) (by first | exact (ast_s (ast_s (ast_s (ast_s (ast_s (ast_s (ast_s (ast_s (ast_1 rfl))))))))) | exact (ast_s (ast_s (ast_s (ast_s (ast_s (ast_s (ast_s (ast_s ast_k))))))))) ?_
                refine A_iload 162 dX10_trade_160 rfl rfl ?_
                refine A_iload 164 dX10_trade_162 rfl rfl ?_
                refine A_icmp_le 178 167 dX10_trade_164 (by decide) rfl (fun c164 => ?_) (fun c164 => ?_)
                · skip
                  try simp only [bI_0, bI_n0, Classical.not_not, Bool.not_eq_false, Bool.true_and, Bool.and_true, decide_eq_true_eq, decide_eq_false_iff_not, dayC_1, dayC_21, dayC_221, dayC_222, inI_1, inI_2, inI_3, inI_5, inI_11, inI_16] at c164
                  have n164 := c164
                  replace c164 := Int32.not_lt.mpr c164
                  refine A_iload 180 dX10_trade_178 rfl rfl ?_
                  refine A_istore 182 dX10_trade_180 rfl (by decide) (by first | exact (ast_s (ast_s (ast_s (ast_s (ast_s (ast_1 rfl)))))) | exact (ast_s (ast_s (ast_s (ast_s (ast_s ast_k)))))) ?_
                  refine A_iload 184 dX10_trade_182 rfl rfl ?_
                  refine A_iload 186 dX10_trade_184 rfl rfl ?_
                  refine A_icmp_le 194 189 dX10_trade_186 (by decide) rfl (fun c186 => ?_) (fun c186 => ?_)
                  · skip
                    try simp only [bI_0, bI_n0, Classical.not_not, Bool.not_eq_false, Bool.true_and, Bool.and_true, decide_eq_true_eq, decide_eq_false_iff_not, dayC_1, dayC_21, dayC_221, dayC_222, inI_1, inI_2, inI_3, inI_5, inI_11, inI_16] at c186
                    have n186 := c186
                    replace c186 := Int32.not_lt.mpr c186
                    refine A_iload 196 dX10_trade_194 rfl rfl ?_
                    refine A_istore 198 dX10_trade_196 rfl (by decide) (by first | exact (ast_s (ast_s (ast_s (ast_s (ast_1 rfl))))) | exact (ast_s (ast_s (ast_s (ast_s ast_k))))) ?_
                    first | refine A_iincN 201 dX10_trade_198 rfl rfl (by decide) (by first | exact (ast_s (ast_s (ast_s (ast_s (ast_s (ast_s (ast_s (ast_1 rfl)))))))) | exact (ast_s (ast_s (ast_s (ast_s (ast_s (ast_s (ast_s ast_k)))))))) ?_ | refine A_iinc 201 (1) dX10_trade_198 rfl rfl (by decide) (by decide) (by first | exact (ast_s (ast_s (ast_s (ast_s (ast_s (ast_s (ast_s (ast_1 rfl)))))))) | exact (ast_s (ast_s (ast_s (ast_s (ast_s (ast_s (ast_s ast_k)))))))) ?_
                    refine A_goto 78 dX10_trade_201 (by decide) ?_
                    exact A_weak (ihb n0b (Nat.lt_succ_self n0b) (j + 1) _ _ h_9 _ (by omega) ((foldN_s (trJ x (x.2.1 k_a) (x.2.1 k_b) i) ((m, u)) j).trans ((congrArg ((trJ x (x.2.1 k_a) (x.2.1 k_b) i) j) eeb).trans (by first | with_reducible rfl | (simp only [c28, n28, cl_a, cl_b, c96, c110, c164, n164, c186, n186, if_true, if_false, ite_true, ite_false, and_true, true_and, and_false, false_and, and_self, or_true, true_or, or_false, false_or, or_self, not_true_eq_false, not_false_eq_true, decide_true, decide_false, Bool.and_true, Bool.true_and, Bool.and_false, Bool.false_and, Bool.and_self, Bool.or_true, Bool.true_or, Bool.or_false, Bool.false_or, Bool.not_true, Bool.not_false, cond_true, cond_false, bI_t, bI_f, Bool.false_eq_true, Bool.true_eq_false, dayC_1, dayC_21, dayC_221, dayC_222, trJ, trN, D2]; done) | (with_reducible first | exact absurd c28 c96 | exact absurd c28 c110 | exact absurd c28 c164 | exact absurd c28 c186 | exact absurd c28 hy | exact absurd c28 hyb | exact absurd c96 c28 | exact absurd c96 c110 | exact absurd c96 c164 | exact absurd c96 c186 | exact absurd c96 hy | exact absurd c96 hyb | exact absurd c110 c28 | exact absurd c110 c96 | exact absurd c110 c164 | exact absurd c110 c186 | exact absurd c110 hy | exact absurd c110 hyb | exact absurd c164 c28 | exact absurd c164 c96 | exact absurd c164 c110 | exact absurd c164 c186 | exact absurd c164 hy | exact absurd c164 hyb | exact absurd c186 c28 | exact absurd c186 c96 | exact absurd c186 c110 | exact absurd c186 c164 | exact absurd c186 hy | exact absurd c186 hyb | exact absurd hy c28 | exact absurd hy c96 | exact absurd hy c110 | exact absurd hy c164 | exact absurd hy c186 | exact absurd hy hyb | exact absurd hyb c28 | exact absurd hyb c96 | exact absurd hyb c110 | exact absurd hyb c164 | exact absurd hyb c186 | exact absurd hyb hy | (rw [c28] at c96; cases c96) | (rw [c28] at c110; cases c110) | (rw [c28] at c164; cases c164) | (rw [c28] at c186; cases c186) | (rw [c96] at c28; cases c28) | (rw [c96] at c110; cases c110) | (rw [c96] at c164; cases c164) | (rw [c96] at c186; cases c186) | (rw [c110] at c28; cases c28) | (rw [c110] at c96; cases c96) | (rw [c110] at c164; cases c164) | (rw [c110] at c186; cases c186) | (rw [c164] at c28; cases c28) | (rw [c164] at c96; cases c96) | (rw [c164] at c110; cases c110) | (rw [c164] at c186; cases c186) | (rw [c186] at c28; cases c28) | (rw [c186] at c96; cases c96) | (rw [c186] at c110; cases c110) | (rw [c186] at c164; cases c164)) | (simp [*, trJ, trN, D2]; done) | with_reducible_and_instances rfl))) O28 hf) (sub_s (sub_s (sub_s (sub_s (sub_n (sub_s (sub_s (sub_s (sub_s (sub_n sub_nil))))))))))
                  · skip
                    try simp only [bI_0, bI_n0, Classical.not_not, Bool.not_eq_false, Bool.true_and, Bool.and_true, decide_eq_true_eq, decide_eq_false_iff_not, dayC_1, dayC_21, dayC_221, dayC_222, inI_1, inI_2, inI_3, inI_5, inI_11, inI_16] at c186
                    have n186 := c186
                    replace c186 := Int32.not_le.mp c186
                    refine A_iload 191 dX10_trade_189 rfl rfl ?_
                    refine A_goto 196 dX10_trade_191 (by decide) ?_
                    refine A_istore 198 dX10_trade_196 rfl (by decide) (by first | exact (ast_s (ast_s (ast_s (ast_s (ast_1 rfl))))) | exact (ast_s (ast_s (ast_s (ast_s ast_k))))) ?_
                    first | refine A_iincN 201 dX10_trade_198 rfl rfl (by decide) (by first | exact (ast_s (ast_s (ast_s (ast_s (ast_s (ast_s (ast_s (ast_1 rfl)))))))) | exact (ast_s (ast_s (ast_s (ast_s (ast_s (ast_s (ast_s ast_k)))))))) ?_ | refine A_iinc 201 (1) dX10_trade_198 rfl rfl (by decide) (by decide) (by first | exact (ast_s (ast_s (ast_s (ast_s (ast_s (ast_s (ast_s (ast_1 rfl)))))))) | exact (ast_s (ast_s (ast_s (ast_s (ast_s (ast_s (ast_s ast_k)))))))) ?_
                    refine A_goto 78 dX10_trade_201 (by decide) ?_
                    exact A_weak (ihb n0b (Nat.lt_succ_self n0b) (j + 1) _ _ h_9 _ (by omega) ((foldN_s (trJ x (x.2.1 k_a) (x.2.1 k_b) i) ((m, u)) j).trans ((congrArg ((trJ x (x.2.1 k_a) (x.2.1 k_b) i) j) eeb).trans (by first | with_reducible rfl | (simp only [c28, n28, cl_a, cl_b, c96, c110, c164, n164, c186, n186, if_true, if_false, ite_true, ite_false, and_true, true_and, and_false, false_and, and_self, or_true, true_or, or_false, false_or, or_self, not_true_eq_false, not_false_eq_true, decide_true, decide_false, Bool.and_true, Bool.true_and, Bool.and_false, Bool.false_and, Bool.and_self, Bool.or_true, Bool.true_or, Bool.or_false, Bool.false_or, Bool.not_true, Bool.not_false, cond_true, cond_false, bI_t, bI_f, Bool.false_eq_true, Bool.true_eq_false, dayC_1, dayC_21, dayC_221, dayC_222, trJ, trN, D2]; done) | (with_reducible first | exact absurd c28 c96 | exact absurd c28 c110 | exact absurd c28 c164 | exact absurd c28 c186 | exact absurd c28 hy | exact absurd c28 hyb | exact absurd c96 c28 | exact absurd c96 c110 | exact absurd c96 c164 | exact absurd c96 c186 | exact absurd c96 hy | exact absurd c96 hyb | exact absurd c110 c28 | exact absurd c110 c96 | exact absurd c110 c164 | exact absurd c110 c186 | exact absurd c110 hy | exact absurd c110 hyb | exact absurd c164 c28 | exact absurd c164 c96 | exact absurd c164 c110 | exact absurd c164 c186 | exact absurd c164 hy | exact absurd c164 hyb | exact absurd c186 c28 | exact absurd c186 c96 | exact absurd c186 c110 | exact absurd c186 c164 | exact absurd c186 hy | exact absurd c186 hyb | exact absurd hy c28 | exact absurd hy c96 | exact absurd hy c110 | exact absurd hy c164 | exact absurd hy c186 | exact absurd hy hyb | exact absurd hyb c28 | exact absurd hyb c96 | exact absurd hyb c110 | exact absurd hyb c164 | exact absurd hyb c186 | exact absurd hyb hy | (rw [c28] at c96; cases c96) | (rw [c28] at c110; cases c110) | (rw [c28] at c164; cases c164) | (rw [c28] at c186; cases c186) | (rw [c96] at c28; cases c28) | (rw [c96] at c110; cases c110) | (rw [c96] at c164; cases c164) | (rw [c96] at c186; cases c186) | (rw [c110] at c28; cases c28) | (rw [c110] at c96; cases c96) | (rw [c110] at c164; cases c164) | (rw [c110] at c186; cases c186) | (rw [c164] at c28; cases c28) | (rw [c164] at c96; cases c96) | (rw [c164] at c110; cases c110) | (rw [c164] at c186; cases c186) | (rw [c186] at c28; cases c28) | (rw [c186] at c96; cases c96) | (rw [c186] at c110; cases c110) | (rw [c186] at c164; cases c164)) | (simp [*, trJ, trN, D2]; done) | with_reducible_and_instances rfl))) O28 hf) (sub_s (sub_s (sub_s (sub_s (sub_n (sub_s (sub_s (sub_s (sub_s (sub_n sub_nil))))))))))
                · skip
                  try simp only [bI_0, bI_n0, Classical.not_not, Bool.not_eq_false, Bool.true_and, Bool.and_true, decide_eq_true_eq, decide_eq_false_iff_not, dayC_1, dayC_21, dayC_221, dayC_222, inI_1, inI_2, inI_3, inI_5, inI_11, inI_16] at c164
                  have n164 := c164
                  replace c164 := Int32.not_le.mp c164
                  refine A_bipush 169 (10) dX10_trade_167 rfl (by decide) ?_
                  refine A_iload 171 dX10_trade_169 rfl rfl ?_
                  refine A_imul 172 dX10_trade_171 rfl ?_
                  refine A_iload 174 dX10_trade_172 rfl rfl ?_
                  refine A_iadd 175 dX10_trade_174 rfl ?_
                  refine A_goto 180 dX10_trade_175 (by decide) ?_
                  refine A_istore 182 dX10_trade_180 rfl (by decide) (by first | exact (ast_s (ast_s (ast_s (ast_s (ast_s (ast_1 rfl)))))) | exact (ast_s (ast_s (ast_s (ast_s (ast_s ast_k)))))) ?_
                  refine A_iload 184 dX10_trade_182 rfl rfl ?_
                  refine A_iload 186 dX10_trade_184 rfl rfl ?_
                  refine A_icmp_le 194 189 dX10_trade_186 (by decide) rfl (fun c186 => ?_) (fun c186 => ?_)
                  · skip
                    try simp only [bI_0, bI_n0, Classical.not_not, Bool.not_eq_false, Bool.true_and, Bool.and_true, decide_eq_true_eq, decide_eq_false_iff_not, dayC_1, dayC_21, dayC_221, dayC_222, inI_1, inI_2, inI_3, inI_5, inI_11, inI_16] at c186
                    have n186 := c186
                    replace c186 := Int32.not_lt.mpr c186
                    refine A_iload 196 dX10_trade_194 rfl rfl ?_
                    refine A_istore 198 dX10_trade_196 rfl (by decide) (by first | exact (ast_s (ast_s (ast_s (ast_s (ast_1 rfl))))) | exact (ast_s (ast_s (ast_s (ast_s ast_k))))) ?_
                    first | refine A_iincN 201 dX10_trade_198 rfl rfl (by decide) (by first | exact (ast_s (ast_s (ast_s (ast_s (ast_s (ast_s (ast_s (ast_1 rfl)))))))) | exact (ast_s (ast_s (ast_s (ast_s (ast_s (ast_s (ast_s ast_k)))))))) ?_ | refine A_iinc 201 (1) dX10_trade_198 rfl rfl (by decide) (by decide) (by first | exact (ast_s (ast_s (ast_s (ast_s (ast_s (ast_s (ast_s (ast_1 rfl)))))))) | exact (ast_s (ast_s (ast_s (ast_s (ast_s (ast_s (ast_s ast_k)))))))) ?_
                    refine A_goto 78 dX10_trade_201 (by decide) ?_
                    exact A_weak (ihb n0b (Nat.lt_succ_self n0b) (j + 1) _ _ h_9 _ (by omega) ((foldN_s (trJ x (x.2.1 k_a) (x.2.1 k_b) i) ((m, u)) j).trans ((congrArg ((trJ x (x.2.1 k_a) (x.2.1 k_b) i) j) eeb).trans (by first | with_reducible rfl | (simp only [c28, n28, cl_a, cl_b, c96, c110, c164, n164, c186, n186, if_true, if_false, ite_true, ite_false, and_true, true_and, and_false, false_and, and_self, or_true, true_or, or_false, false_or, or_self, not_true_eq_false, not_false_eq_true, decide_true, decide_false, Bool.and_true, Bool.true_and, Bool.and_false, Bool.false_and, Bool.and_self, Bool.or_true, Bool.true_or, Bool.or_false, Bool.false_or, Bool.not_true, Bool.not_false, cond_true, cond_false, bI_t, bI_f, Bool.false_eq_true, Bool.true_eq_false, dayC_1, dayC_21, dayC_221, dayC_222, trJ, trN, D2]; done) | (with_reducible first | exact absurd c28 c96 | exact absurd c28 c110 | exact absurd c28 c164 | exact absurd c28 c186 | exact absurd c28 hy | exact absurd c28 hyb | exact absurd c96 c28 | exact absurd c96 c110 | exact absurd c96 c164 | exact absurd c96 c186 | exact absurd c96 hy | exact absurd c96 hyb | exact absurd c110 c28 | exact absurd c110 c96 | exact absurd c110 c164 | exact absurd c110 c186 | exact absurd c110 hy | exact absurd c110 hyb | exact absurd c164 c28 | exact absurd c164 c96 | exact absurd c164 c110 | exact absurd c164 c186 | exact absurd c164 hy | exact absurd c164 hyb | exact absurd c186 c28 | exact absurd c186 c96 | exact absurd c186 c110 | exact absurd c186 c164 | exact absurd c186 hy | exact absurd c186 hyb | exact absurd hy c28 | exact absurd hy c96 | exact absurd hy c110 | exact absurd hy c164 | exact absurd hy c186 | exact absurd hy hyb | exact absurd hyb c28 | exact absurd hyb c96 | exact absurd hyb c110 | exact absurd hyb c164 | exact absurd hyb c186 | exact absurd hyb hy | (rw [c28] at c96; cases c96) | (rw [c28] at c110; cases c110) | (rw [c28] at c164; cases c164) | (rw [c28] at c186; cases c186) | (rw [c96] at c28; cases c28) | (rw [c96] at c110; cases c110) | (rw [c96] at c164; cases c164) | (rw [c96] at c186; cases c186) | (rw [c110] at c28; cases c28) | (rw [c110] at c96; cases c96) | (rw [c110] at c164; cases c164) | (rw [c110] at c186; cases c186) | (rw [c164] at c28; cases c28) | (rw [c164] at c96; cases c96) | (rw [c164] at c110; cases c110) | (rw [c164] at c186; cases c186) | (rw [c186] at c28; cases c28) | (rw [c186] at c96; cases c96) | (rw [c186] at c110; cases c110) | (rw [c186] at c164; cases c164)) | (simp [*, trJ, trN, D2]; done) | with_reducible_and_instances rfl))) O28 hf) (sub_s (sub_s (sub_s (sub_s (sub_n (sub_s (sub_s (sub_s (sub_s (sub_n sub_nil))))))))))
                  · skip
                    try simp only [bI_0, bI_n0, Classical.not_not, Bool.not_eq_false, Bool.true_and, Bool.and_true, decide_eq_true_eq, decide_eq_false_iff_not, dayC_1, dayC_21, dayC_221, dayC_222, inI_1, inI_2, inI_3, inI_5, inI_11, inI_16] at c186
                    have n186 := c186
                    replace c186 := Int32.not_le.mp c186
                    refine A_iload 191 dX10_trade_189 rfl rfl ?_
                    refine A_goto 196 dX10_trade_191 (by decide) ?_
                    refine A_istore 198 dX10_trade_196 rfl (by decide) (by first | exact (ast_s (ast_s (ast_s (ast_s (ast_1 rfl))))) | exact (ast_s (ast_s (ast_s (ast_s ast_k))))) ?_
                    first | refine A_iincN 201 dX10_trade_198 rfl rfl (by decide) (by first | exact (ast_s (ast_s (ast_s (ast_s (ast_s (ast_s (ast_s (ast_1 rfl)))))))) | exact (ast_s (ast_s (ast_s (ast_s (ast_s (ast_s (ast_s ast_k)))))))) ?_ | refine A_iinc 201 (1) dX10_trade_198 rfl rfl (by decide) (by decide) (by first | exact (ast_s (ast_s (ast_s (ast_s (ast_s (ast_s (ast_s (ast_1 rfl)))))))) | exact (ast_s (ast_s (ast_s (ast_s (ast_s (ast_s (ast_s ast_k)))))))) ?_
                    refine A_goto 78 dX10_trade_201 (by decide) ?_
                    exact A_weak (ihb n0b (Nat.lt_succ_self n0b) (j + 1) _ _ h_9 _ (by omega) ((foldN_s (trJ x (x.2.1 k_a) (x.2.1 k_b) i) ((m, u)) j).trans ((congrArg ((trJ x (x.2.1 k_a) (x.2.1 k_b) i) j) eeb).trans (by first | with_reducible rfl | (simp only [c28, n28, cl_a, cl_b, c96, c110, c164, n164, c186, n186, if_true, if_false, ite_true, ite_false, and_true, true_and, and_false, false_and, and_self, or_true, true_or, or_false, false_or, or_self, not_true_eq_false, not_false_eq_true, decide_true, decide_false, Bool.and_true, Bool.true_and, Bool.and_false, Bool.false_and, Bool.and_self, Bool.or_true, Bool.true_or, Bool.or_false, Bool.false_or, Bool.not_true, Bool.not_false, cond_true, cond_false, bI_t, bI_f, Bool.false_eq_true, Bool.true_eq_false, dayC_1, dayC_21, dayC_221, dayC_222, trJ, trN, D2]; done) | (with_reducible first | exact absurd c28 c96 | exact absurd c28 c110 | exact absurd c28 c164 | exact absurd c28 c186 | exact absurd c28 hy | exact absurd c28 hyb | exact absurd c96 c28 | exact absurd c96 c110 | exact absurd c96 c164 | exact absurd c96 c186 | exact absurd c96 hy | exact absurd c96 hyb | exact absurd c110 c28 | exact absurd c110 c96 | exact absurd c110 c164 | exact absurd c110 c186 | exact absurd c110 hy | exact absurd c110 hyb | exact absurd c164 c28 | exact absurd c164 c96 | exact absurd c164 c110 | exact absurd c164 c186 | exact absurd c164 hy | exact absurd c164 hyb | exact absurd c186 c28 | exact absurd c186 c96 | exact absurd c186 c110 | exact absurd c186 c164 | exact absurd c186 hy | exact absurd c186 hyb | exact absurd hy c28 | exact absurd hy c96 | exact absurd hy c110 | exact absurd hy c164 | exact absurd hy c186 | exact absurd hy hyb | exact absurd hyb c28 | exact absurd hyb c96 | exact absurd hyb c110 | exact absurd hyb c164 | exact absurd hyb c186 | exact absurd hyb hy | (rw [c28] at c96; cases c96) | (rw [c28] at c110; cases c110) | (rw [c28] at c164; cases c164) | (rw [c28] at c186; cases c186) | (rw [c96] at c28; cases c28) | (rw [c96] at c110; cases c110) | (rw [c96] at c164; cases c164) | (rw [c96] at c186; cases c186) | (rw [c110] at c28; cases c28) | (rw [c110] at c96; cases c96) | (rw [c110] at c164; cases c164) | (rw [c110] at c186; cases c186) | (rw [c164] at c28; cases c28) | (rw [c164] at c96; cases c96) | (rw [c164] at c110; cases c110) | (rw [c164] at c186; cases c186) | (rw [c186] at c28; cases c28) | (rw [c186] at c96; cases c96) | (rw [c186] at c110; cases c110) | (rw [c186] at c164; cases c164)) | (simp [*, trJ, trN, D2]; done) | with_reducible_and_instances rfl))) O28 hf) (sub_s (sub_s (sub_s (sub_s (sub_n (sub_s (sub_s (sub_s (sub_s (sub_n sub_nil))))))))))
        exact A_weak (L78 (8) (0) (_) (_) g68 (_) (by omega) (rfl) O28 hf) (sub_s (sub_s (sub_s (sub_s (sub_n (sub_s (sub_s (sub_s (sub_s (sub_n sub_nil))))))))))
    exact A_weak (L68 (8) (0) (_) (_) h_5 (_) (by omega) (rfl) O28 hf) (sub_s (sub_s (sub_s (sub_s (sub_n (sub_s (sub_s (sub_s (sub_n (sub_n sub_nil))))))))))
  · skip
    try simp only [bI_0, bI_n0, Classical.not_not, Bool.not_eq_false, Bool.true_and, Bool.and_true, decide_eq_true_eq, decide_eq_false_iff_not, dayC_1, dayC_21, dayC_221, dayC_222, inI_1, inI_2, inI_3, inI_5, inI_11, inI_16] at c28
    have n28 := c28
    replace c28 := Int32.not_le.mp c28
    have hcd : CD (wTrade x a b v) := cz_neg wTrade_cz c28
    refine A_aload_n 32 dX10_trade_31 rfl rfl rfl ?_
    refine A_iload 34 dX10_trade_32 rfl rfl ?_
    refine A_callVI 37 (S_X10_refuse_c X l (by first | assumption | decide | omega | exact Ne.symm (by assumption)) (by first | assumption | (unfold CD; decide))) dX10_trade_34 rfl kX10_refuse lk_X10_121 rfl O28 (by decide) rfl (Nat.le_of_ble_eq_true rfl) (fun v_10 h_10 qh_10 => ?_)
    obtain ⟨rfl, n0h_10, eh_10⟩ := qh_10
    replace O28 := n0h_10
    replace hf : ∀ i, i ≠ 28 → h_10 i = h i := fun i g0 => (eh_10 i g0).trans (hf i g0)
    refine A_iret dX10_trade_37 rfl ⟨_, rfl, (by exact rV_n hcd.ne), _, O28, hf⟩
set_option maxHeartbeats 4000000 in
set_option maxRecDepth 100000 in
theorem S_X10_alike (X : En) (l : Launch) {h : Hp} {x : PW} {c : RC} {z : RZ} (O28 : h 28 = some (rB x (-1) c z)) (hW : WOK x)  {v : Int32} : Ct X l mX10_alike [aR 28 0, aI v] h (QI (fun vr h2 => (rV (w01 v) (aAlike x v)) = vr ∧ ∃ (z1 : RZ), h2 (28) = some (rB x (-1) (rS (w01 v) c.1, c.2) z1) ∧ ∀ i, i ≠ 28 → h2 i = h i)) := by
  have hx := hW.1
  have hp := hW.2.1
  have h10 := hx.1
  have hf : ∀ i, i ≠ 28 → h i = h i := fun _ _ => rfl
  refine Ct.intro [some (aR 28 0), some (aI v), none, none, none, none, none, none] (by decide +kernel) rfl (Nat.le_of_ble_eq_true rfl) ?_
  refine A_aload_n 1 dX10_alike_0 rfl rfl rfl ?_
  refine A_iconst 2 (0) dX10_alike_1 rfl (by decide) ?_
  refine P_X10_9 5 dX10_alike_2 rfl fw_X10_78 O28 (fun h_1 nh_1 eh_1 => ?_)
  replace O28 := nh_1
  replace hf : ∀ i, i ≠ 28 → h_1 i = h i := fun i g0 => (eh_1 i g0).trans (hf i g0)
  try dsimp only at O28
  refine A_iload_n 6 dX10_alike_5 rfl rfl rfl ?_
  refine A_i2l 7 dX10_alike_6 rfl ?_
  refine A_lconst 8 (0) dX10_alike_7 rfl (by decide) ?_
  refine A_lconst 9 (1) dX10_alike_8 rfl (by decide) ?_
  refine A_callSI 12 (S_X10_in X l) dX10_alike_9 rfl kX10_in lk_X10_84 rfl (by decide) rfl (Nat.le_of_ble_eq_true rfl) (fun v_2 h_2 qh_2 => ?_)
  obtain ⟨rfl, rfl⟩ := qh_2
  refine A_if_ne 22 15 dX10_alike_12 (by decide) rfl (fun c12 => ?_) (fun c12 => ?_)
  · skip
    try simp only [bI_0, bI_n0, Classical.not_not, Bool.not_eq_false, Bool.true_and, Bool.and_true, decide_eq_true_eq, decide_eq_false_iff_not, dayC_1, dayC_21, dayC_221, dayC_222, inI_1, inI_2, inI_3, inI_5, inI_11, inI_16] at c12
    refine A_bipush 24 (-9) dX10_alike_22 rfl (by decide) ?_
    refine A_istore_n 25 dX10_alike_24 rfl rfl (by decide) (by first | exact (ast_s (ast_1 rfl)) | exact (ast_s ast_k)) ?_
    refine A_bipush 27 (-9) dX10_alike_25 rfl (by decide) ?_
    refine A_istore_n 28 dX10_alike_27 rfl rfl (by decide) (by first | exact (ast_s (ast_s (ast_1 rfl))) | exact (ast_s (ast_s ast_k))) ?_
    refine A_iconst 29 (0) dX10_alike_28 rfl (by decide) ?_
    refine A_istore 31 dX10_alike_29 rfl (by decide) (by first | exact (ast_s (ast_s (ast_s (ast_1 rfl)))) | exact (ast_s (ast_s (ast_s ast_k)))) ?_
    have L31 : ∀ (nq a : Nat) (u w : Int32) (g31 : Hp) (z2 : RZ), (nq + a = x.2.2.2.1) → (foldN (alO x) ((-9, -9)) a = (u, w)) → (g31 28 = some (rB x (-1) c z2)) → (∀ i, i ≠ 28 → g31 i = h i) → Av X l mX10_alike 31 [some (aR 28 0), some (aI (v)), some (aI (u)), some (aI (w)), some (aI (nI (a))), none, none, none] [] g31 (QI (fun vr h2 => (rV (w01 v) (aAlike x v)) = vr ∧ ∃ (z1 : RZ), h2 (28) = some (rB x (-1) (rS (w01 v) c.1, c.2) z1) ∧ ∀ i, i ≠ 28 → h2 i = h i)) := by
      intro nq
      induction nq using Nat.strongRecOn with
      | _ nq ih =>
      intro a u w g31 z2 en ee O28 hf
      refine A_iload 33 dX10_alike_31 rfl rfl ?_
      refine A_aload_n 34 dX10_alike_33 rfl rfl rfl ?_
      refine A_getfield 37 dX10_alike_34 rfl f_X10_81 O28 rfl ?_
      try dsimp only
      refine A_icmp_ge 121 40 dX10_alike_37 (by decide) rfl (fun c37 => ?_) (fun c37 => ?_)
      · skip
        obtain rfl := (up_ge_T (N := x.2.2.2.1) c37 rfl (by omega) (by omega)).symm
        refine A_iload_n 122 dX10_alike_121 rfl rfl rfl ?_
        refine A_if_ne 129 125 dX10_alike_122 (by decide) rfl (fun c122 => ?_) (fun c122 => ?_)
        · skip
          try simp only [bI_0, bI_n0, Classical.not_not, Bool.not_eq_false, Bool.true_and, Bool.and_true, decide_eq_true_eq, decide_eq_false_iff_not, dayC_1, dayC_21, dayC_221, dayC_222, inI_1, inI_2, inI_3, inI_5, inI_11, inI_16] at c122
          refine A_iload_n 130 dX10_alike_129 rfl rfl rfl ?_
          have ew : w01 v = 0 := by
            first | (simp only [c12, c122, if_true, if_false, ite_true, ite_false, and_true, true_and, and_false, false_and, and_self, or_true, true_or, or_false, false_or, or_self, not_true_eq_false, not_false_eq_true, decide_true, decide_false, Bool.and_true, Bool.true_and, Bool.and_false, Bool.false_and, Bool.and_self, Bool.or_true, Bool.true_or, Bool.or_false, Bool.false_or, Bool.not_true, Bool.not_false, cond_true, cond_false, bI_t, bI_f, Bool.false_eq_true, Bool.true_eq_false, dayC_1, dayC_21, dayC_221, dayC_222, w01, wP, wPL, wP01, wL01, wRow, w01R, wAB, wNum, isP, isL]; done) | exact cl_f
          refine A_iret dX10_alike_130 rfl ⟨_, rfl, (by rw [ew, rV_0]; unfold aAlike; rw [ee]; first | rw [if_pos c122] | rw [if_neg c122]), _, (by rw [ew]; first | (rw [rS_0]; exact O28) | exact O28), hf⟩
        · skip
          try simp only [bI_0, bI_n0, Classical.not_not, Bool.not_eq_false, Bool.true_and, Bool.and_true, decide_eq_true_eq, decide_eq_false_iff_not, dayC_1, dayC_21, dayC_221, dayC_222, inI_1, inI_2, inI_3, inI_5, inI_11, inI_16] at c122
          refine A_iload_n 126 dX10_alike_125 rfl rfl rfl ?_
          refine A_goto 130 dX10_alike_126 (by decide) ?_
          have ew : w01 v = 0 := by
            first | (simp only [c12, c122, if_true, if_false, ite_true, ite_false, and_true, true_and, and_false, false_and, and_self, or_true, true_or, or_false, false_or, or_self, not_true_eq_false, not_false_eq_true, decide_true, decide_false, Bool.and_true, Bool.true_and, Bool.and_false, Bool.false_and, Bool.and_self, Bool.or_true, Bool.true_or, Bool.or_false, Bool.false_or, Bool.not_true, Bool.not_false, cond_true, cond_false, bI_t, bI_f, Bool.false_eq_true, Bool.true_eq_false, dayC_1, dayC_21, dayC_221, dayC_222, w01, wP, wPL, wP01, wL01, wRow, w01R, wAB, wNum, isP, isL]; done) | (simp only [c12, eq_true c122, if_true, if_false, ite_true, ite_false, and_true, true_and, and_false, false_and, and_self, or_true, true_or, or_false, false_or, or_self, not_true_eq_false, not_false_eq_true, decide_true, decide_false, Bool.and_true, Bool.true_and, Bool.and_false, Bool.false_and, Bool.and_self, Bool.or_true, Bool.true_or, Bool.or_false, Bool.false_or, Bool.not_true, Bool.not_false, cond_true, cond_false, bI_t, bI_f, Bool.false_eq_true, Bool.true_eq_false, dayC_1, dayC_21, dayC_221, dayC_222, w01, wP, wPL, wP01, wL01, wRow, w01R, wAB, wNum, isP, isL]; done) | exact cl_f
          refine A_iret dX10_alike_130 rfl ⟨_, rfl, (by rw [ew, rV_0]; unfold aAlike; rw [ee]; first | rw [if_pos c122] | rw [if_neg c122]), _, (by rw [ew]; first | (rw [rS_0]; exact O28) | exact O28), hf⟩
      · skip
        have hi := up_ge_F (N := x.2.2.2.1) c37 rfl (by omega) (by omega)
        obtain ⟨n0, rfl⟩ : ∃ q, nq = q + 1 := ⟨nq - 1, by omega⟩
        refine A_iload 42 dX10_alike_40 rfl rfl ?_
        refine A_iconst 43 (1) dX10_alike_42 rfl (by decide) ?_
        refine A_iadd 44 dX10_alike_43 rfl ?_
        refine A_istore 46 dX10_alike_44 rfl (by decide) (by first | exact (ast_s (ast_s (ast_s (ast_s (ast_1 rfl))))) | exact (ast_s (ast_s (ast_s (ast_s ast_k))))) ?_
        rw [n41]
        have L46 : ∀ (nqb j : Nat) (u2 w2 : Int32) (g46 : Hp) (z2 : RZ), (nqb + j = x.2.2.2.1) → (foldN (alI x a) ((u, w)) j = (u2, w2)) → (a < j) → (g46 28 = some (rB x (-1) c z2)) → (∀ i, i ≠ 28 → g46 i = h i) → Av X l mX10_alike 46 [some (aR 28 0), some (aI (v)), some (aI (u2)), some (aI (w2)), some (aI (nI (a))), some (aI (nI (j))), none, none] [] g46 (QI (fun vr h2 => (rV (w01 v) (aAlike x v)) = vr ∧ ∃ (z1 : RZ), h2 (28) = some (rB x (-1) (rS (w01 v) c.1, c.2) z1) ∧ ∀ i, i ≠ 28 → h2 i = h i)) := by
          intro nqb
          induction nqb using Nat.strongRecOn with
          | _ nqb ihb =>
          intro j u2 w2 g46 z2 enb eeb hyb O28 hf
          refine A_iload 48 dX10_alike_46 rfl rfl ?_
          refine A_aload_n 49 dX10_alike_48 rfl rfl rfl ?_
          refine A_getfield 52 dX10_alike_49 rfl f_X10_81 O28 rfl ?_
          try dsimp only
          refine A_icmp_ge 115 55 dX10_alike_52 (by decide) rfl (fun c52 => ?_) (fun c52 => ?_)
          · skip
            obtain rfl := (up_ge_T (N := x.2.2.2.1) c52 rfl (by omega) (by omega)).symm
            first | refine A_iincN 118 dX10_alike_115 rfl rfl (by decide) (by first | exact (ast_s (ast_s (ast_s (ast_1 rfl)))) | exact (ast_s (ast_s (ast_s ast_k)))) ?_ | refine A_iinc 118 (1) dX10_alike_115 rfl rfl (by decide) (by decide) (by first | exact (ast_s (ast_s (ast_s (ast_1 rfl)))) | exact (ast_s (ast_s (ast_s ast_k)))) ?_
            refine A_goto 31 dX10_alike_118 (by decide) ?_
            exact A_weak (ih n0 (Nat.lt_succ_self n0) (a + 1) _ _ g46 _ (by omega) ((foldN_s (alO x) ((-9, -9)) a).trans ((congrArg ((alO x) a) ee).trans (by exact eeb))) O28 hf) (sub_s (sub_s (sub_s (sub_s (sub_s (sub_n (sub_n (sub_n sub_nil))))))))
          · skip
            have hib := up_ge_F (N := x.2.2.2.1) c52 rfl (by omega) (by omega)
            obtain ⟨n0b, rfl⟩ : ∃ q, nqb = q + 1 := ⟨nqb - 1, by omega⟩
            refine A_aload_n 56 dX10_alike_55 rfl rfl rfl ?_
            refine A_iload 58 dX10_alike_56 rfl rfl ?_
            refine A_callVI 61 (S_X10_doneBy_n X l (by first | assumption | decide | omega | exact Ne.symm (by assumption)) (by first | assumption | decide | omega | exact Ne.symm (by assumption)) (by first | assumption | decide | omega | exact Ne.symm (by assumption))) dX10_alike_58 rfl kX10_doneBy lk_X10_115 rfl O28 (by decide) rfl (Nat.le_of_ble_eq_true rfl) (fun v_3 h_3 qh_3 => ?_)
            obtain ⟨rfl, n0h_3, eh_3⟩ := qh_3
            replace O28 := n0h_3
            replace hf : ∀ i, i ≠ 28 → h_3 i = h i := fun i g0 => (eh_3 i g0).trans (hf i g0)
            refine A_istore 63 dX10_alike_61 rfl (by decide) (by first | exact (ast_s (ast_s (ast_s (ast_s (ast_s (ast_1 rfl)))))) | exact (ast_s (ast_s (ast_s (ast_s (ast_s ast_k)))))) ?_
            refine A_iload 65 dX10_alike_63 rfl rfl ?_
            refine A_aload_n 66 dX10_alike_65 rfl rfl rfl ?_
            refine A_iload 68 dX10_alike_66 rfl rfl ?_
            refine A_callVI 71 (S_X10_doneBy_n X l (by first | assumption | decide | omega | exact Ne.symm (by assumption)) (by first | assumption | decide | omega | exact Ne.symm (by assumption)) (by first | assumption | decide | omega | exact Ne.symm (by assumption))) dX10_alike_68 rfl kX10_doneBy lk_X10_115 rfl O28 (by decide) rfl (Nat.le_of_ble_eq_true rfl) (fun v_4 h_4 qh_4 => ?_)
            obtain ⟨rfl, n0h_4, eh_4⟩ := qh_4
            replace O28 := n0h_4
            replace hf : ∀ i, i ≠ 28 → h_4 i = h i := fun i g0 => (eh_4 i g0).trans (hf i g0)
            refine A_iand 72 dX10_alike_71 rfl ?_
            refine A_callSI 75 (S_X10_onesOf_r X l (by first | assumption | exact R10.nI (by omega) | exact dDone_R (by assumption) _ _ | exact R8.r10 (by assumption) | exact (WOK_pk (by assumption) (by omega)).r10 | exact (WOK_tr (by assumption)).r10 | exact R10_and _ (dDone_R (by assumption) _ _))) dX10_alike_72 rfl kX10_onesOf lk_X10_112 rfl (by decide) rfl (Nat.le_of_ble_eq_true rfl) (fun v_5 h_5 qh_5 => ?_)
            obtain ⟨rfl, rfl⟩ := qh_5
            refine A_istore 77 dX10_alike_75 rfl (by decide) (by first | exact (ast_s (ast_s (ast_s (ast_s (ast_s (ast_s (ast_1 rfl))))))) | exact (ast_s (ast_s (ast_s (ast_s (ast_s (ast_s ast_k))))))) ?_
            refine A_iload 79 dX10_alike_77 rfl rfl ?_
            refine A_iload_n 80 dX10_alike_79 rfl rfl rfl ?_
            refine A_icmp_le 94 83 dX10_alike_80 (by decide) rfl (fun c80 => ?_) (fun c80 => ?_)
            · skip
              try simp only [bI_0, bI_n0, Classical.not_not, Bool.not_eq_false, Bool.true_and, Bool.and_true, decide_eq_true_eq, decide_eq_false_iff_not, dayC_1, dayC_21, dayC_221, dayC_222, inI_1, inI_2, inI_3, inI_5, inI_11, inI_16] at c80
              have n80 := c80
              replace c80 := Int32.not_lt.mpr c80
              refine A_iload_n 95 dX10_alike_94 rfl rfl rfl ?_
              refine A_istore_n 96 dX10_alike_95 rfl rfl (by decide) (by first | exact (ast_s (ast_1 rfl)) | exact (ast_s ast_k)) ?_
              refine A_iload 98 dX10_alike_96 rfl rfl ?_
              refine A_iload_n 99 dX10_alike_98 rfl rfl rfl ?_
              refine A_icmp_le 107 102 dX10_alike_99 (by decide) rfl (fun c99 => ?_) (fun c99 => ?_)
              · skip
                try simp only [bI_0, bI_n0, Classical.not_not, Bool.not_eq_false, Bool.true_and, Bool.and_true, decide_eq_true_eq, decide_eq_false_iff_not, dayC_1, dayC_21, dayC_221, dayC_222, inI_1, inI_2, inI_3, inI_5, inI_11, inI_16] at c99
                have n99 := c99
                replace c99 := Int32.not_lt.mpr c99
                refine A_iload_n 108 dX10_alike_107 rfl rfl rfl ?_
                refine A_istore_n 109 dX10_alike_108 rfl rfl (by decide) (by first | exact (ast_s (ast_s (ast_1 rfl))) | exact (ast_s (ast_s ast_k))) ?_
                first | refine A_iincN 112 dX10_alike_109 rfl rfl (by decide) (by first | exact (ast_s (ast_s (ast_s (ast_s (ast_1 rfl))))) | exact (ast_s (ast_s (ast_s (ast_s ast_k))))) ?_ | refine A_iinc 112 (1) dX10_alike_109 rfl rfl (by decide) (by decide) (by first | exact (ast_s (ast_s (ast_s (ast_s (ast_1 rfl))))) | exact (ast_s (ast_s (ast_s (ast_s ast_k))))) ?_
                refine A_goto 46 dX10_alike_112 (by decide) ?_
                exact A_weak (ihb n0b (Nat.lt_succ_self n0b) (j + 1) _ _ h_4 _ (by omega) ((foldN_s (alI x a) ((u, w)) j).trans ((congrArg ((alI x a) j) eeb).trans (by first | with_reducible rfl | (simp only [c12, c80, n80, c99, n99, if_true, if_false, ite_true, ite_false, and_true, true_and, and_false, false_and, and_self, or_true, true_or, or_false, false_or, or_self, not_true_eq_false, not_false_eq_true, decide_true, decide_false, Bool.and_true, Bool.true_and, Bool.and_false, Bool.false_and, Bool.and_self, Bool.or_true, Bool.true_or, Bool.or_false, Bool.false_or, Bool.not_true, Bool.not_false, cond_true, cond_false, bI_t, bI_f, Bool.false_eq_true, Bool.true_eq_false, dayC_1, dayC_21, dayC_221, dayC_222, alI]; done) | (with_reducible first | exact absurd c12 c80 | exact absurd c12 c99 | exact absurd c12 hy | exact absurd c12 hyb | exact absurd c80 c12 | exact absurd c80 c99 | exact absurd c80 hy | exact absurd c80 hyb | exact absurd c99 c12 | exact absurd c99 c80 | exact absurd c99 hy | exact absurd c99 hyb | exact absurd hy c12 | exact absurd hy c80 | exact absurd hy c99 | exact absurd hy hyb | exact absurd hyb c12 | exact absurd hyb c80 | exact absurd hyb c99 | exact absurd hyb hy | (rw [c12] at c80; cases c80) | (rw [c12] at c99; cases c99) | (rw [c80] at c12; cases c12) | (rw [c80] at c99; cases c99) | (rw [c99] at c12; cases c12) | (rw [c99] at c80; cases c80)) | (simp [*, alI]; done) | with_reducible_and_instances rfl))) (by omega) O28 hf) (sub_s (sub_s (sub_s (sub_s (sub_s (sub_s (sub_n (sub_n sub_nil))))))))
              · skip
                try simp only [bI_0, bI_n0, Classical.not_not, Bool.not_eq_false, Bool.true_and, Bool.and_true, decide_eq_true_eq, decide_eq_false_iff_not, dayC_1, dayC_21, dayC_221, dayC_222, inI_1, inI_2, inI_3, inI_5, inI_11, inI_16] at c99
                have n99 := c99
                replace c99 := Int32.not_le.mp c99
                refine A_iload 104 dX10_alike_102 rfl rfl ?_
                refine A_goto 108 dX10_alike_104 (by decide) ?_
                refine A_istore_n 109 dX10_alike_108 rfl rfl (by decide) (by first | exact (ast_s (ast_s (ast_1 rfl))) | exact (ast_s (ast_s ast_k))) ?_
                first | refine A_iincN 112 dX10_alike_109 rfl rfl (by decide) (by first | exact (ast_s (ast_s (ast_s (ast_s (ast_1 rfl))))) | exact (ast_s (ast_s (ast_s (ast_s ast_k))))) ?_ | refine A_iinc 112 (1) dX10_alike_109 rfl rfl (by decide) (by decide) (by first | exact (ast_s (ast_s (ast_s (ast_s (ast_1 rfl))))) | exact (ast_s (ast_s (ast_s (ast_s ast_k))))) ?_
                refine A_goto 46 dX10_alike_112 (by decide) ?_
                exact A_weak (ihb n0b (Nat.lt_succ_self n0b) (j + 1) _ _ h_4 _ (by omega) ((foldN_s (alI x a) ((u, w)) j).trans ((congrArg ((alI x a) j) eeb).trans (by first | with_reducible rfl | (simp only [c12, c80, n80, c99, n99, if_true, if_false, ite_true, ite_false, and_true, true_and, and_false, false_and, and_self, or_true, true_or, or_false, false_or, or_self, not_true_eq_false, not_false_eq_true, decide_true, decide_false, Bool.and_true, Bool.true_and, Bool.and_false, Bool.false_and, Bool.and_self, Bool.or_true, Bool.true_or, Bool.or_false, Bool.false_or, Bool.not_true, Bool.not_false, cond_true, cond_false, bI_t, bI_f, Bool.false_eq_true, Bool.true_eq_false, dayC_1, dayC_21, dayC_221, dayC_222, alI]; done) | (with_reducible first | exact absurd c12 c80 | exact absurd c12 c99 | exact absurd c12 hy | exact absurd c12 hyb | exact absurd c80 c12 | exact absurd c80 c99 | exact absurd c80 hy | exact absurd c80 hyb | exact absurd c99 c12 | exact absurd c99 c80 | exact absurd c99 hy | exact absurd c99 hyb | exact absurd hy c12 | exact absurd hy c80 | exact absurd hy c99 | exact absurd hy hyb | exact absurd hyb c12 | exact absurd hyb c80 | exact absurd hyb c99 | exact absurd hyb hy | (rw [c12] at c80; cases c80) | (rw [c12] at c99; cases c99) | (rw [c80] at c12; cases c12) | (rw [c80] at c99; cases c99) | (rw [c99] at c12; cases c12) | (rw [c99] at c80; cases c80)) | (simp [*, alI]; done) | with_reducible_and_instances rfl))) (by omega) O28 hf) (sub_s (sub_s (sub_s (sub_s (sub_s (sub_s (sub_n (sub_n sub_nil))))))))
            · skip
              try simp only [bI_0, bI_n0, Classical.not_not, Bool.not_eq_false, Bool.true_and, Bool.and_true, decide_eq_true_eq, decide_eq_false_iff_not, dayC_1, dayC_21, dayC_221, dayC_222, inI_1, inI_2, inI_3, inI_5, inI_11, inI_16] at c80
              have n80 := c80
              replace c80 := Int32.not_le.mp c80
              refine A_bipush 85 (10) dX10_alike_83 rfl (by decide) ?_
              refine A_iload 87 dX10_alike_85 rfl rfl ?_
              refine A_imul 88 dX10_alike_87 rfl ?_
              refine A_iload 90 dX10_alike_88 rfl rfl ?_
              refine A_iadd 91 dX10_alike_90 rfl ?_
              refine A_goto 95 dX10_alike_91 (by decide) ?_
              refine A_istore_n 96 dX10_alike_95 rfl rfl (by decide) (by first | exact (ast_s (ast_1 rfl)) | exact (ast_s ast_k)) ?_
              refine A_iload 98 dX10_alike_96 rfl rfl ?_
              refine A_iload_n 99 dX10_alike_98 rfl rfl rfl ?_
              refine A_icmp_le 107 102 dX10_alike_99 (by decide) rfl (fun c99 => ?_) (fun c99 => ?_)
              · skip
                try simp only [bI_0, bI_n0, Classical.not_not, Bool.not_eq_false, Bool.true_and, Bool.and_true, decide_eq_true_eq, decide_eq_false_iff_not, dayC_1, dayC_21, dayC_221, dayC_222, inI_1, inI_2, inI_3, inI_5, inI_11, inI_16] at c99
                have n99 := c99
                replace c99 := Int32.not_lt.mpr c99
                refine A_iload_n 108 dX10_alike_107 rfl rfl rfl ?_
                refine A_istore_n 109 dX10_alike_108 rfl rfl (by decide) (by first | exact (ast_s (ast_s (ast_1 rfl))) | exact (ast_s (ast_s ast_k))) ?_
                first | refine A_iincN 112 dX10_alike_109 rfl rfl (by decide) (by first | exact (ast_s (ast_s (ast_s (ast_s (ast_1 rfl))))) | exact (ast_s (ast_s (ast_s (ast_s ast_k))))) ?_ | refine A_iinc 112 (1) dX10_alike_109 rfl rfl (by decide) (by decide) (by first | exact (ast_s (ast_s (ast_s (ast_s (ast_1 rfl))))) | exact (ast_s (ast_s (ast_s (ast_s ast_k))))) ?_
                refine A_goto 46 dX10_alike_112 (by decide) ?_
                exact A_weak (ihb n0b (Nat.lt_succ_self n0b) (j + 1) _ _ h_4 _ (by omega) ((foldN_s (alI x a) ((u, w)) j).trans ((congrArg ((alI x a) j) eeb).trans (by first | with_reducible rfl | (simp only [c12, c80, n80, c99, n99, if_true, if_false, ite_true, ite_false, and_true, true_and, and_false, false_and, and_self, or_true, true_or, or_false, false_or, or_self, not_true_eq_false, not_false_eq_true, decide_true, decide_false, Bool.and_true, Bool.true_and, Bool.and_false, Bool.false_and, Bool.and_self, Bool.or_true, Bool.true_or, Bool.or_false, Bool.false_or, Bool.not_true, Bool.not_false, cond_true, cond_false, bI_t, bI_f, Bool.false_eq_true, Bool.true_eq_false, dayC_1, dayC_21, dayC_221, dayC_222, alI]; done) | (with_reducible first | exact absurd c12 c80 | exact absurd c12 c99 | exact absurd c12 hy | exact absurd c12 hyb | exact absurd c80 c12 | exact absurd c80 c99 | exact absurd c80 hy | exact absurd c80 hyb | exact absurd c99 c12 | exact absurd c99 c80 | exact absurd c99 hy | exact absurd c99 hyb | exact absurd hy c12 | exact absurd hy c80 | exact absurd hy c99 | exact absurd hy hyb | exact absurd hyb c12 | exact absurd hyb c80 | exact absurd hyb c99 | exact absurd hyb hy | (rw [c12] at c80; cases c80) | (rw [c12] at c99; cases c99) | (rw [c80] at c12; cases c12) | (rw [c80] at c99; cases c99) | (rw [c99] at c12; cases c12) | (rw [c99] at c80; cases c80)) | (simp [*, alI]; done) | with_reducible_and_instances rfl))) (by omega) O28 hf) (sub_s (sub_s (sub_s (sub_s (sub_s (sub_s (sub_n (sub_n sub_nil))))))))
              · skip
                try simp only [bI_0, bI_n0, Classical.not_not, Bool.not_eq_false, Bool.true_and, Bool.and_true, decide_eq_true_eq, decide_eq_false_iff_not, dayC_1, dayC_21, dayC_221, dayC_222, inI_1, inI_2, inI_3, inI_5, inI_11, inI_16] at c99
                have n99 := c99
                replace c99 := Int32.not_le.mp c99
                refine A_iload 104 dX10_alike_102 rfl rfl ?_
                refine A_goto 108 dX10_alike_104 (by decide) ?_
                refine A_istore_n 109 dX10_alike_108 rfl rfl (by decide) (by first | exact (ast_s (ast_s (ast_1 rfl))) | exact (ast_s (ast_s ast_k))) ?_
                first | refine A_iincN 112 dX10_alike_109 rfl rfl (by decide) (by first | exact (ast_s (ast_s (ast_s (ast_s (ast_1 rfl))))) | exact (ast_s (ast_s (ast_s (ast_s ast_k))))) ?_ | refine A_iinc 112 (1) dX10_alike_109 rfl rfl (by decide) (by decide) (by first | exact (ast_s (ast_s (ast_s (ast_s (ast_1 rfl))))) | exact (ast_s (ast_s (ast_s (ast_s ast_k))))) ?_
                refine A_goto 46 dX10_alike_112 (by decide) ?_
                exact A_weak (ihb n0b (Nat.lt_succ_self n0b) (j + 1) _ _ h_4 _ (by omega) ((foldN_s (alI x a) ((u, w)) j).trans ((congrArg ((alI x a) j) eeb).trans (by first | with_reducible rfl | (simp only [c12, c80, n80, c99, n99, if_true, if_false, ite_true, ite_false, and_true, true_and, and_false, false_and, and_self, or_true, true_or, or_false, false_or, or_self, not_true_eq_false, not_false_eq_true, decide_true, decide_false, Bool.and_true, Bool.true_and, Bool.and_false, Bool.false_and, Bool.and_self, Bool.or_true, Bool.true_or, Bool.or_false, Bool.false_or, Bool.not_true, Bool.not_false, cond_true, cond_false, bI_t, bI_f, Bool.false_eq_true, Bool.true_eq_false, dayC_1, dayC_21, dayC_221, dayC_222, alI]; done) | (with_reducible first | exact absurd c12 c80 | exact absurd c12 c99 | exact absurd c12 hy | exact absurd c12 hyb | exact absurd c80 c12 | exact absurd c80 c99 | exact absurd c80 hy | exact absurd c80 hyb | exact absurd c99 c12 | exact absurd c99 c80 | exact absurd c99 hy | exact absurd c99 hyb | exact absurd hy c12 | exact absurd hy c80 | exact absurd hy c99 | exact absurd hy hyb | exact absurd hyb c12 | exact absurd hyb c80 | exact absurd hyb c99 | exact absurd hyb hy | (rw [c12] at c80; cases c80) | (rw [c12] at c99; cases c99) | (rw [c80] at c12; cases c12) | (rw [c80] at c99; cases c99) | (rw [c99] at c12; cases c12) | (rw [c99] at c80; cases c80)) | (simp [*, alI]; done) | with_reducible_and_instances rfl))) (by omega) O28 hf) (sub_s (sub_s (sub_s (sub_s (sub_s (sub_s (sub_n (sub_n sub_nil))))))))
        exact A_weak (L46 (x.2.2.2.1 - (a + 1)) (a + 1) (_) (_) g31 (_) (by omega) (foldN_id alI_id) (Nat.lt_succ_self a) O28 hf) (sub_s (sub_s (sub_s (sub_s (sub_s (sub_s (sub_n (sub_n sub_nil))))))))
    exact A_weak (L31 (x.2.2.2.1) (0) (_) (_) h_1 (_) (by omega) (rfl) O28 hf) (sub_s (sub_s (sub_s (sub_s (sub_s (sub_n (sub_n (sub_n sub_nil))))))))
  · skip
    try simp only [bI_0, bI_n0, Classical.not_not, Bool.not_eq_false, Bool.true_and, Bool.and_true, decide_eq_true_eq, decide_eq_false_iff_not, dayC_1, dayC_21, dayC_221, dayC_222, inI_1, inI_2, inI_3, inI_5, inI_11, inI_16] at c12
    refine A_aload_n 16 dX10_alike_15 rfl rfl rfl ?_
    refine A_bipush 18 (-2) dX10_alike_16 rfl (by decide) ?_
    refine A_callVI 21 (S_X10_refuse_c X l (by first | assumption | decide | omega | exact Ne.symm (by assumption)) (by first | assumption | (unfold CD; decide))) dX10_alike_18 rfl kX10_refuse lk_X10_121 rfl O28 (by decide) rfl (Nat.le_of_ble_eq_true rfl) (fun v_6 h_6 qh_6 => ?_)
    obtain ⟨rfl, n0h_6, eh_6⟩ := qh_6
    replace O28 := n0h_6
    replace hf : ∀ i, i ≠ 28 → h_6 i = h i := fun i g0 => (eh_6 i g0).trans (hf i g0)
    have ew : w01 v = -2 := by
      first | (simp only [c12, if_true, if_false, ite_true, ite_false, and_true, true_and, and_false, false_and, and_self, or_true, true_or, or_false, false_or, or_self, not_true_eq_false, not_false_eq_true, decide_true, decide_false, Bool.and_true, Bool.true_and, Bool.and_false, Bool.false_and, Bool.and_self, Bool.or_true, Bool.true_or, Bool.or_false, Bool.false_or, Bool.not_true, Bool.not_false, cond_true, cond_false, bI_t, bI_f, Bool.false_eq_true, Bool.true_eq_false, dayC_1, dayC_21, dayC_221, dayC_222, w01, wP, wPL, wP01, wL01, wRow, w01R, wAB, wNum, isP, isL]; done) | exact cl_f
    refine A_iret dX10_alike_21 rfl ⟨_, rfl, (by rw [ew]; exact rV_n (by decide)), _, (by rw [ew]; first | (rw [rS_0]; exact O28) | exact O28), hf⟩
set_option maxHeartbeats 4000000 in
set_option maxRecDepth 100000 in
theorem S_X10_key (X : En) (l : Launch) {h : Hp} {x : PW} {c : RC} {z : RZ} (O28 : h 28 = some (rB x (-1) c z)) (hW : WOK x)  {v : Int32} : Ct X l mX10_key [aR 28 0, aI v] h (QI (fun vr h2 => (rV (w01 v) (aKey x v)) = vr ∧ ∃ (z1 : RZ), h2 (28) = some (rB x (-1) (rS (w01 v) c.1, c.2) z1) ∧ ∀ i, i ≠ 28 → h2 i = h i)) := by
  have hx := hW.1
  have hp := hW.2.1
  have h10 := hx.1
  have hf : ∀ i, i ≠ 28 → h i = h i := fun _ _ => rfl
  refine Ct.intro [some (aR 28 0), some (aI v), none, none, none, none, none] (by decide +kernel) rfl (Nat.le_of_ble_eq_true rfl) ?_
  refine A_aload_n 1 dX10_key_0 rfl rfl rfl ?_
  refine A_iconst 2 (0) dX10_key_1 rfl (by decide) ?_
  refine P_X10_9 5 dX10_key_2 rfl fw_X10_78 O28 (fun h_1 nh_1 eh_1 => ?_)
  replace O28 := nh_1
  replace hf : ∀ i, i ≠ 28 → h_1 i = h i := fun i g0 => (eh_1 i g0).trans (hf i g0)
  try dsimp only at O28
  refine A_iload_n 6 dX10_key_5 rfl rfl rfl ?_
  refine A_i2l 7 dX10_key_6 rfl ?_
  refine A_lconst 8 (0) dX10_key_7 rfl (by decide) ?_
  refine A_lconst 9 (1) dX10_key_8 rfl (by decide) ?_
  refine A_callSI 12 (S_X10_in X l) dX10_key_9 rfl kX10_in lk_X10_84 rfl (by decide) rfl (Nat.le_of_ble_eq_true rfl) (fun v_2 h_2 qh_2 => ?_)
  obtain ⟨rfl, rfl⟩ := qh_2
  refine A_if_ne 22 15 dX10_key_12 (by decide) rfl (fun c12 => ?_) (fun c12 => ?_)
  · skip
    try simp only [bI_0, bI_n0, Classical.not_not, Bool.not_eq_false, Bool.true_and, Bool.and_true, decide_eq_true_eq, decide_eq_false_iff_not, dayC_1, dayC_21, dayC_221, dayC_222, inI_1, inI_2, inI_3, inI_5, inI_11, inI_16] at c12
    refine A_iconst 23 (0) dX10_key_22 rfl (by decide) ?_
    refine A_istore_n 24 dX10_key_23 rfl rfl (by decide) (by first | exact (ast_s (ast_1 rfl)) | exact (ast_s ast_k)) ?_
    refine A_sipush 27 (999) dX10_key_24 rfl (by decide) ?_
    refine A_istore_n 28 dX10_key_27 rfl rfl (by decide) (by first | exact (ast_s (ast_s (ast_1 rfl))) | exact (ast_s (ast_s ast_k))) ?_
    refine A_iconst 29 (0) dX10_key_28 rfl (by decide) ?_
    refine A_istore 31 dX10_key_29 rfl (by decide) (by first | exact (ast_s (ast_s (ast_s (ast_1 rfl)))) | exact (ast_s (ast_s (ast_s ast_k)))) ?_
    have L31 : ∀ (nq i : Nat) (u m : Int32) (g31 : Hp) (z2 : RZ), (nq + i = 8) → (foldN (kyG x) ((0, 999)) i = (u, m)) → (g31 28 = some (rB x (-1) c z2)) → (∀ i, i ≠ 28 → g31 i = h i) → Av X l mX10_key 31 [some (aR 28 0), some (aI (v)), some (aI (u)), some (aI (m)), some (aI (nI (i))), none, none] [] g31 (QI (fun vr h2 => (rV (w01 v) (aKey x v)) = vr ∧ ∃ (z1 : RZ), h2 (28) = some (rB x (-1) (rS (w01 v) c.1, c.2) z1) ∧ ∀ i, i ≠ 28 → h2 i = h i)) := by
      intro nq
      induction nq using Nat.strongRecOn with
      | _ nq ih =>
      intro i u m g31 z2 en ee O28 hf
      refine A_iload 33 dX10_key_31 rfl rfl ?_
      refine A_bipush 35 (8) dX10_key_33 rfl (by decide) ?_
      refine A_icmp_ge 114 38 dX10_key_35 (by decide) rfl (fun c35 => ?_) (fun c35 => ?_)
      · skip
        obtain rfl := (up_ge_T (N := 8) c35 rfl (by omega) (by omega)).symm
        refine A_iload_n 115 dX10_key_114 rfl rfl rfl ?_
        refine A_if_ne 122 118 dX10_key_115 (by decide) rfl (fun c115 => ?_) (fun c115 => ?_)
        · skip
          try simp only [bI_0, bI_n0, Classical.not_not, Bool.not_eq_false, Bool.true_and, Bool.and_true, decide_eq_true_eq, decide_eq_false_iff_not, dayC_1, dayC_21, dayC_221, dayC_222, inI_1, inI_2, inI_3, inI_5, inI_11, inI_16] at c115
          refine A_iload_n 123 dX10_key_122 rfl rfl rfl ?_
          have ew : w01 v = 0 := by
            first | (simp only [c12, c115, if_true, if_false, ite_true, ite_false, and_true, true_and, and_false, false_and, and_self, or_true, true_or, or_false, false_or, or_self, not_true_eq_false, not_false_eq_true, decide_true, decide_false, Bool.and_true, Bool.true_and, Bool.and_false, Bool.false_and, Bool.and_self, Bool.or_true, Bool.true_or, Bool.or_false, Bool.false_or, Bool.not_true, Bool.not_false, cond_true, cond_false, bI_t, bI_f, Bool.false_eq_true, Bool.true_eq_false, dayC_1, dayC_21, dayC_221, dayC_222, w01, wP, wPL, wP01, wL01, wRow, w01R, wAB, wNum, isP, isL]; done) | exact cl_f
          refine A_iret dX10_key_123 rfl ⟨_, rfl, (by rw [ew, rV_0]; unfold aKey; rw [← ky_eq hx hp, ee]; first | rw [if_pos c115] | rw [if_neg c115]), _, (by rw [ew]; first | (rw [rS_0]; exact O28) | exact O28), hf⟩
        · skip
          try simp only [bI_0, bI_n0, Classical.not_not, Bool.not_eq_false, Bool.true_and, Bool.and_true, decide_eq_true_eq, decide_eq_false_iff_not, dayC_1, dayC_21, dayC_221, dayC_222, inI_1, inI_2, inI_3, inI_5, inI_11, inI_16] at c115
          refine A_iload_n 119 dX10_key_118 rfl rfl rfl ?_
          refine A_goto 123 dX10_key_119 (by decide) ?_
          have ew : w01 v = 0 := by
            first | (simp only [c12, c115, if_true, if_false, ite_true, ite_false, and_true, true_and, and_false, false_and, and_self, or_true, true_or, or_false, false_or, or_self, not_true_eq_false, not_false_eq_true, decide_true, decide_false, Bool.and_true, Bool.true_and, Bool.and_false, Bool.false_and, Bool.and_self, Bool.or_true, Bool.true_or, Bool.or_false, Bool.false_or, Bool.not_true, Bool.not_false, cond_true, cond_false, bI_t, bI_f, Bool.false_eq_true, Bool.true_eq_false, dayC_1, dayC_21, dayC_221, dayC_222, w01, wP, wPL, wP01, wL01, wRow, w01R, wAB, wNum, isP, isL]; done) | (simp only [c12, eq_true c115, if_true, if_false, ite_true, ite_false, and_true, true_and, and_false, false_and, and_self, or_true, true_or, or_false, false_or, or_self, not_true_eq_false, not_false_eq_true, decide_true, decide_false, Bool.and_true, Bool.true_and, Bool.and_false, Bool.false_and, Bool.and_self, Bool.or_true, Bool.true_or, Bool.or_false, Bool.false_or, Bool.not_true, Bool.not_false, cond_true, cond_false, bI_t, bI_f, Bool.false_eq_true, Bool.true_eq_false, dayC_1, dayC_21, dayC_221, dayC_222, w01, wP, wPL, wP01, wL01, wRow, w01R, wAB, wNum, isP, isL]; done) | exact cl_f
          refine A_iret dX10_key_123 rfl ⟨_, rfl, (by rw [ew, rV_0]; unfold aKey; rw [← ky_eq hx hp, ee]; first | rw [if_pos c115] | rw [if_neg c115]), _, (by rw [ew]; first | (rw [rS_0]; exact O28) | exact O28), hf⟩
      · skip
        have hi := up_ge_F (N := 8) c35 rfl (by omega) (by omega)
        obtain ⟨n0, rfl⟩ : ∃ q, nq = q + 1 := ⟨nq - 1, by omega⟩
        refine A_iconst 39 (0) dX10_key_38 rfl (by decide) ?_
        refine A_istore 41 dX10_key_39 rfl (by decide) (by first | exact (ast_s (ast_s (ast_s (ast_s (ast_1 rfl))))) | exact (ast_s (ast_s (ast_s (ast_s ast_k))))) ?_
        refine A_iconst 42 (0) dX10_key_41 rfl (by decide) ?_
        refine A_istore 44 dX10_key_42 rfl (by decide) (by first | exact (ast_s (ast_s (ast_s (ast_s (ast_s (ast_1 rfl)))))) | exact (ast_s (ast_s (ast_s (ast_s (ast_s ast_k)))))) ?_
        have L44 : ∀ (nqb j : Nat) (w : Int32) (g44 : Hp) (z2 : RZ), (nqb + j = x.2.2.2.1) → (foldN (dtF x (tbI (nI i))) (0) j = (w)) → (g44 28 = some (rB x (-1) c z2)) → (∀ i, i ≠ 28 → g44 i = h i) → Av X l mX10_key 44 [some (aR 28 0), some (aI (v)), some (aI (u)), some (aI (m)), some (aI (nI (i))), some (aI (w)), some (aI (nI (j)))] [] g44 (QI (fun vr h2 => (rV (w01 v) (aKey x v)) = vr ∧ ∃ (z1 : RZ), h2 (28) = some (rB x (-1) (rS (w01 v) c.1, c.2) z1) ∧ ∀ i, i ≠ 28 → h2 i = h i)) := by
          intro nqb
          induction nqb using Nat.strongRecOn with
          | _ nqb ihb =>
          intro j w g44 z2 enb eeb O28 hf
          refine A_iload 46 dX10_key_44 rfl rfl ?_
          refine A_aload_n 47 dX10_key_46 rfl rfl rfl ?_
          refine A_getfield 50 dX10_key_47 rfl f_X10_81 O28 rfl ?_
          try dsimp only
          refine A_icmp_ge 82 53 dX10_key_50 (by decide) rfl (fun c50 => ?_) (fun c50 => ?_)
          · skip
            obtain rfl := (up_ge_T (N := x.2.2.2.1) c50 rfl (by omega) (by omega)).symm
            have ew2 : w = DT x (tbI (nI i)) := eeb.symm
            subst ew2
            refine A_iload 84 dX10_key_82 rfl rfl ?_
            refine A_iload_n 85 dX10_key_84 rfl rfl rfl ?_
            refine A_icmp_ge 93 88 dX10_key_85 (by decide) rfl (fun c85 => ?_) (fun c85 => ?_)
            · skip
              try simp only [bI_0, bI_n0, Classical.not_not, Bool.not_eq_false, Bool.true_and, Bool.and_true, decide_eq_true_eq, decide_eq_false_iff_not, dayC_1, dayC_21, dayC_221, dayC_222, inI_1, inI_2, inI_3, inI_5, inI_11, inI_16] at c85
              have n85 := c85
              replace c85 := Int32.not_lt.mpr c85
              refine A_iload_n 94 dX10_key_93 rfl rfl rfl ?_
              refine A_istore_n 95 dX10_key_94 rfl rfl (by decide) (by first | exact (ast_s (ast_1 rfl)) | exact (ast_s ast_k)) ?_
              refine A_iload 97 dX10_key_95 rfl rfl ?_
              refine A_iload_n 98 dX10_key_97 rfl rfl rfl ?_
              refine A_icmp_ge 106 101 dX10_key_98 (by decide) rfl (fun c98 => ?_) (fun c98 => ?_)
              · skip
                try simp only [bI_0, bI_n0, Classical.not_not, Bool.not_eq_false, Bool.true_and, Bool.and_true, decide_eq_true_eq, decide_eq_false_iff_not, dayC_1, dayC_21, dayC_221, dayC_222, inI_1, inI_2, inI_3, inI_5, inI_11, inI_16] at c98
                have n98 := c98
                replace c98 := Int32.not_lt.mpr c98
                refine A_iload_n 107 dX10_key_106 rfl rfl rfl ?_
                refine A_istore_n 108 dX10_key_107 rfl rfl (by decide) (by first | exact (ast_s (ast_s (ast_1 rfl))) | exact (ast_s (ast_s ast_k))) ?_
                first | refine A_iincN 111 dX10_key_108 rfl rfl (by decide) (by first | exact (ast_s (ast_s (ast_s (ast_1 rfl)))) | exact (ast_s (ast_s (ast_s ast_k)))) ?_ | refine A_iinc 111 (1) dX10_key_108 rfl rfl (by decide) (by decide) (by first | exact (ast_s (ast_s (ast_s (ast_1 rfl)))) | exact (ast_s (ast_s (ast_s ast_k)))) ?_
                refine A_goto 31 dX10_key_111 (by decide) ?_
                exact A_weak (ih n0 (Nat.lt_succ_self n0) (i + 1) _ _ g44 _ (by omega) ((foldN_s (kyG x) ((0, 999)) i).trans ((congrArg ((kyG x) i) ee).trans (by first | with_reducible rfl | (simp only [c12, c85, n85, c98, n98, if_true, if_false, ite_true, ite_false, and_true, true_and, and_false, false_and, and_self, or_true, true_or, or_false, false_or, or_self, not_true_eq_false, not_false_eq_true, decide_true, decide_false, Bool.and_true, Bool.true_and, Bool.and_false, Bool.false_and, Bool.and_self, Bool.or_true, Bool.true_or, Bool.or_false, Bool.false_or, Bool.not_true, Bool.not_false, cond_true, cond_false, bI_t, bI_f, Bool.false_eq_true, Bool.true_eq_false, dayC_1, dayC_21, dayC_221, dayC_222, kyG]; done) | (with_reducible first | exact absurd c12 c85 | exact absurd c12 c98 | exact absurd c12 hy | exact absurd c12 hyb | exact absurd c85 c12 | exact absurd c85 c98 | exact absurd c85 hy | exact absurd c85 hyb | exact absurd c98 c12 | exact absurd c98 c85 | exact absurd c98 hy | exact absurd c98 hyb | exact absurd hy c12 | exact absurd hy c85 | exact absurd hy c98 | exact absurd hy hyb | exact absurd hyb c12 | exact absurd hyb c85 | exact absurd hyb c98 | exact absurd hyb hy | (rw [c12] at c85; cases c85) | (rw [c12] at c98; cases c98) | (rw [c85] at c12; cases c12) | (rw [c85] at c98; cases c98) | (rw [c98] at c12; cases c12) | (rw [c98] at c85; cases c85)) | (simp [*, kyG]; done) | with_reducible_and_instances rfl))) O28 hf) (sub_s (sub_s (sub_s (sub_s (sub_s (sub_n (sub_n sub_nil)))))))
              · skip
                try simp only [bI_0, bI_n0, Classical.not_not, Bool.not_eq_false, Bool.true_and, Bool.and_true, decide_eq_true_eq, decide_eq_false_iff_not, dayC_1, dayC_21, dayC_221, dayC_222, inI_1, inI_2, inI_3, inI_5, inI_11, inI_16] at c98
                have n98 := c98
                replace c98 := Int32.not_le.mp c98
                refine A_iload 103 dX10_key_101 rfl rfl ?_
                refine A_goto 107 dX10_key_103 (by decide) ?_
                refine A_istore_n 108 dX10_key_107 rfl rfl (by decide) (by first | exact (ast_s (ast_s (ast_1 rfl))) | exact (ast_s (ast_s ast_k))) ?_
                first | refine A_iincN 111 dX10_key_108 rfl rfl (by decide) (by first | exact (ast_s (ast_s (ast_s (ast_1 rfl)))) | exact (ast_s (ast_s (ast_s ast_k)))) ?_ | refine A_iinc 111 (1) dX10_key_108 rfl rfl (by decide) (by decide) (by first | exact (ast_s (ast_s (ast_s (ast_1 rfl)))) | exact (ast_s (ast_s (ast_s ast_k)))) ?_
                refine A_goto 31 dX10_key_111 (by decide) ?_
                exact A_weak (ih n0 (Nat.lt_succ_self n0) (i + 1) _ _ g44 _ (by omega) ((foldN_s (kyG x) ((0, 999)) i).trans ((congrArg ((kyG x) i) ee).trans (by first | with_reducible rfl | (simp only [c12, c85, n85, c98, n98, if_true, if_false, ite_true, ite_false, and_true, true_and, and_false, false_and, and_self, or_true, true_or, or_false, false_or, or_self, not_true_eq_false, not_false_eq_true, decide_true, decide_false, Bool.and_true, Bool.true_and, Bool.and_false, Bool.false_and, Bool.and_self, Bool.or_true, Bool.true_or, Bool.or_false, Bool.false_or, Bool.not_true, Bool.not_false, cond_true, cond_false, bI_t, bI_f, Bool.false_eq_true, Bool.true_eq_false, dayC_1, dayC_21, dayC_221, dayC_222, kyG]; done) | (with_reducible first | exact absurd c12 c85 | exact absurd c12 c98 | exact absurd c12 hy | exact absurd c12 hyb | exact absurd c85 c12 | exact absurd c85 c98 | exact absurd c85 hy | exact absurd c85 hyb | exact absurd c98 c12 | exact absurd c98 c85 | exact absurd c98 hy | exact absurd c98 hyb | exact absurd hy c12 | exact absurd hy c85 | exact absurd hy c98 | exact absurd hy hyb | exact absurd hyb c12 | exact absurd hyb c85 | exact absurd hyb c98 | exact absurd hyb hy | (rw [c12] at c85; cases c85) | (rw [c12] at c98; cases c98) | (rw [c85] at c12; cases c12) | (rw [c85] at c98; cases c98) | (rw [c98] at c12; cases c12) | (rw [c98] at c85; cases c85)) | (simp [*, kyG]; done) | with_reducible_and_instances rfl))) O28 hf) (sub_s (sub_s (sub_s (sub_s (sub_s (sub_n (sub_n sub_nil)))))))
            · skip
              try simp only [bI_0, bI_n0, Classical.not_not, Bool.not_eq_false, Bool.true_and, Bool.and_true, decide_eq_true_eq, decide_eq_false_iff_not, dayC_1, dayC_21, dayC_221, dayC_222, inI_1, inI_2, inI_3, inI_5, inI_11, inI_16] at c85
              have n85 := c85
              replace c85 := Int32.not_le.mp c85
              refine A_iload 90 dX10_key_88 rfl rfl ?_
              refine A_goto 94 dX10_key_90 (by decide) ?_
              refine A_istore_n 95 dX10_key_94 rfl rfl (by decide) (by first | exact (ast_s (ast_1 rfl)) | exact (ast_s ast_k)) ?_
              refine A_iload 97 dX10_key_95 rfl rfl ?_
              refine A_iload_n 98 dX10_key_97 rfl rfl rfl ?_
              refine A_icmp_ge 106 101 dX10_key_98 (by decide) rfl (fun c98 => ?_) (fun c98 => ?_)
              · skip
                try simp only [bI_0, bI_n0, Classical.not_not, Bool.not_eq_false, Bool.true_and, Bool.and_true, decide_eq_true_eq, decide_eq_false_iff_not, dayC_1, dayC_21, dayC_221, dayC_222, inI_1, inI_2, inI_3, inI_5, inI_11, inI_16] at c98
                have n98 := c98
                replace c98 := Int32.not_lt.mpr c98
                refine A_iload_n 107 dX10_key_106 rfl rfl rfl ?_
                refine A_istore_n 108 dX10_key_107 rfl rfl (by decide) (by first | exact (ast_s (ast_s (ast_1 rfl))) | exact (ast_s (ast_s ast_k))) ?_
                first | refine A_iincN 111 dX10_key_108 rfl rfl (by decide) (by first | exact (ast_s (ast_s (ast_s (ast_1 rfl)))) | exact (ast_s (ast_s (ast_s ast_k)))) ?_ | refine A_iinc 111 (1) dX10_key_108 rfl rfl (by decide) (by decide) (by first | exact (ast_s (ast_s (ast_s (ast_1 rfl)))) | exact (ast_s (ast_s (ast_s ast_k)))) ?_
                refine A_goto 31 dX10_key_111 (by decide) ?_
                exact A_weak (ih n0 (Nat.lt_succ_self n0) (i + 1) _ _ g44 _ (by omega) ((foldN_s (kyG x) ((0, 999)) i).trans ((congrArg ((kyG x) i) ee).trans (by first | with_reducible rfl | (simp only [c12, c85, n85, c98, n98, if_true, if_false, ite_true, ite_false, and_true, true_and, and_false, false_and, and_self, or_true, true_or, or_false, false_or, or_self, not_true_eq_false, not_false_eq_true, decide_true, decide_false, Bool.and_true, Bool.true_and, Bool.and_false, Bool.false_and, Bool.and_self, Bool.or_true, Bool.true_or, Bool.or_false, Bool.false_or, Bool.not_true, Bool.not_false, cond_true, cond_false, bI_t, bI_f, Bool.false_eq_true, Bool.true_eq_false, dayC_1, dayC_21, dayC_221, dayC_222, kyG]; done) | (with_reducible first | exact absurd c12 c85 | exact absurd c12 c98 | exact absurd c12 hy | exact absurd c12 hyb | exact absurd c85 c12 | exact absurd c85 c98 | exact absurd c85 hy | exact absurd c85 hyb | exact absurd c98 c12 | exact absurd c98 c85 | exact absurd c98 hy | exact absurd c98 hyb | exact absurd hy c12 | exact absurd hy c85 | exact absurd hy c98 | exact absurd hy hyb | exact absurd hyb c12 | exact absurd hyb c85 | exact absurd hyb c98 | exact absurd hyb hy | (rw [c12] at c85; cases c85) | (rw [c12] at c98; cases c98) | (rw [c85] at c12; cases c12) | (rw [c85] at c98; cases c98) | (rw [c98] at c12; cases c12) | (rw [c98] at c85; cases c85)) | (simp [*, kyG]; done) | with_reducible_and_instances rfl))) O28 hf) (sub_s (sub_s (sub_s (sub_s (sub_s (sub_n (sub_n sub_nil)))))))
              · skip
                try simp only [bI_0, bI_n0, Classical.not_not, Bool.not_eq_false, Bool.true_and, Bool.and_true, decide_eq_true_eq, decide_eq_false_iff_not, dayC_1, dayC_21, dayC_221, dayC_222, inI_1, inI_2, inI_3, inI_5, inI_11, inI_16] at c98
                have n98 := c98
                replace c98 := Int32.not_le.mp c98
                refine A_iload 103 dX10_key_101 rfl rfl ?_
                refine A_goto 107 dX10_key_103 (by decide) ?_
                refine A_istore_n 108 dX10_key_107 rfl rfl (by decide) (by first | exact (ast_s (ast_s (ast_1 rfl))) | exact (ast_s (ast_s ast_k))) ?_
                first | refine A_iincN 111 dX10_key_108 rfl rfl (by decide) (by first | exact (ast_s (ast_s (ast_s (ast_1 rfl)))) | exact (ast_s (ast_s (ast_s ast_k)))) ?_ | refine A_iinc 111 (1) dX10_key_108 rfl rfl (by decide) (by decide) (by first | exact (ast_s (ast_s (ast_s (ast_1 rfl)))) | exact (ast_s (ast_s (ast_s ast_k)))) ?_
                refine A_goto 31 dX10_key_111 (by decide) ?_
                exact A_weak (ih n0 (Nat.lt_succ_self n0) (i + 1) _ _ g44 _ (by omega) ((foldN_s (kyG x) ((0, 999)) i).trans ((congrArg ((kyG x) i) ee).trans (by first | with_reducible rfl | (simp only [c12, c85, n85, c98, n98, if_true, if_false, ite_true, ite_false, and_true, true_and, and_false, false_and, and_self, or_true, true_or, or_false, false_or, or_self, not_true_eq_false, not_false_eq_true, decide_true, decide_false, Bool.and_true, Bool.true_and, Bool.and_false, Bool.false_and, Bool.and_self, Bool.or_true, Bool.true_or, Bool.or_false, Bool.false_or, Bool.not_true, Bool.not_false, cond_true, cond_false, bI_t, bI_f, Bool.false_eq_true, Bool.true_eq_false, dayC_1, dayC_21, dayC_221, dayC_222, kyG]; done) | (with_reducible first | exact absurd c12 c85 | exact absurd c12 c98 | exact absurd c12 hy | exact absurd c12 hyb | exact absurd c85 c12 | exact absurd c85 c98 | exact absurd c85 hy | exact absurd c85 hyb | exact absurd c98 c12 | exact absurd c98 c85 | exact absurd c98 hy | exact absurd c98 hyb | exact absurd hy c12 | exact absurd hy c85 | exact absurd hy c98 | exact absurd hy hyb | exact absurd hyb c12 | exact absurd hyb c85 | exact absurd hyb c98 | exact absurd hyb hy | (rw [c12] at c85; cases c85) | (rw [c12] at c98; cases c98) | (rw [c85] at c12; cases c12) | (rw [c85] at c98; cases c98) | (rw [c98] at c12; cases c12) | (rw [c98] at c85; cases c85)) | (simp [*, kyG]; done) | with_reducible_and_instances rfl))) O28 hf) (sub_s (sub_s (sub_s (sub_s (sub_s (sub_n (sub_n sub_nil)))))))
          · skip
            have hib := up_ge_F (N := x.2.2.2.1) c50 rfl (by omega) (by omega)
            obtain ⟨n0b, rfl⟩ : ∃ q, nqb = q + 1 := ⟨nqb - 1, by omega⟩
            refine A_iload 55 dX10_key_53 rfl rfl ?_
            refine A_aload_n 56 dX10_key_55 rfl rfl rfl ?_
            refine A_aload_n 57 dX10_key_56 rfl rfl rfl ?_
            refine A_getfield 60 dX10_key_57 rfl f_X10_22 O28 rfl ?_
            refine A_iload 62 dX10_key_60 rfl rfl ?_
            refine A_iaload 63 dX10_key_62 rfl O28 rfl (by first | assumption | exact ix_nI (by omega) (by decide) | exact ix_lit _ rfl (by omega) (by decide) | exact ix_lit _ rfl (by decide) (by decide)) ?_
            try dsimp only
            refine A_iconst 64 (1) dX10_key_63 rfl (by decide) ?_
            refine A_iload 66 dX10_key_64 rfl rfl ?_
            refine A_ishl 67 dX10_key_66 rfl ?_
            rw [sh_tb hi]
            refine A_iconst 68 (-1) dX10_key_67 rfl (by decide) ?_
            refine A_ixor 69 dX10_key_68 rfl ?_
            refine A_iand 70 dX10_key_69 rfl ?_
            refine A_callVI 73 (S_X10_manyBy_n X l (by first | assumption | decide | omega | exact Ne.symm (by assumption)) (by first | assumption | decide | omega | exact Ne.symm (by assumption))) dX10_key_70 rfl kX10_manyBy lk_X10_233 rfl O28 (by decide) rfl (Nat.le_of_ble_eq_true rfl) (fun v_3 h_3 qh_3 => ?_)
            obtain ⟨rfl, n0h_3, eh_3⟩ := qh_3
            replace O28 := n0h_3
            replace hf : ∀ i, i ≠ 28 → h_3 i = h i := fun i g0 => (eh_3 i g0).trans (hf i g0)
            refine A_iadd 74 dX10_key_73 rfl ?_
            refine A_istore 76 dX10_key_74 rfl (by decide) (by first | exact (ast_s (ast_s (ast_s (ast_s (ast_1 rfl))))) | exact (ast_s (ast_s (ast_s (ast_s ast_k))))) ?_
            first | refine A_iincN 79 dX10_key_76 rfl rfl (by decide) (by first | exact (ast_s (ast_s (ast_s (ast_s (ast_s (ast_1 rfl)))))) | exact (ast_s (ast_s (ast_s (ast_s (ast_s ast_k)))))) ?_ | refine A_iinc 79 (1) dX10_key_76 rfl rfl (by decide) (by decide) (by first | exact (ast_s (ast_s (ast_s (ast_s (ast_s (ast_1 rfl)))))) | exact (ast_s (ast_s (ast_s (ast_s (ast_s ast_k)))))) ?_
            refine A_goto 44 dX10_key_79 (by decide) ?_
            exact ihb n0b (Nat.lt_succ_self n0b) (j + 1) _ h_3 _ (by omega) ((foldN_s (dtF x (tbI (nI i))) (0) j).trans ((congrArg ((dtF x (tbI (nI i))) j) eeb).trans (by first | with_reducible rfl | (simp only [c12, if_true, if_false, ite_true, ite_false, and_true, true_and, and_false, false_and, and_self, or_true, true_or, or_false, false_or, or_self, not_true_eq_false, not_false_eq_true, decide_true, decide_false, Bool.and_true, Bool.true_and, Bool.and_false, Bool.false_and, Bool.and_self, Bool.or_true, Bool.true_or, Bool.or_false, Bool.false_or, Bool.not_true, Bool.not_false, cond_true, cond_false, bI_t, bI_f, Bool.false_eq_true, Bool.true_eq_false, dayC_1, dayC_21, dayC_221, dayC_222, dtF]; done) | (with_reducible first | exact absurd c12 hy | exact absurd c12 hyb | exact absurd hy c12 | exact absurd hy hyb | exact absurd hyb c12 | exact absurd hyb hy) | (simp [*, dtF]; done) | with_reducible_and_instances rfl))) O28 hf
        exact L44 (x.2.2.2.1) (0) (_) g31 (_) (by omega) (rfl) O28 hf
    exact A_weak (L31 (8) (0) (_) (_) h_1 (_) (by omega) (rfl) O28 hf) (sub_s (sub_s (sub_s (sub_s (sub_s (sub_n (sub_n sub_nil)))))))
  · skip
    try simp only [bI_0, bI_n0, Classical.not_not, Bool.not_eq_false, Bool.true_and, Bool.and_true, decide_eq_true_eq, decide_eq_false_iff_not, dayC_1, dayC_21, dayC_221, dayC_222, inI_1, inI_2, inI_3, inI_5, inI_11, inI_16] at c12
    refine A_aload_n 16 dX10_key_15 rfl rfl rfl ?_
    refine A_bipush 18 (-2) dX10_key_16 rfl (by decide) ?_
    refine A_callVI 21 (S_X10_refuse_c X l (by first | assumption | decide | omega | exact Ne.symm (by assumption)) (by first | assumption | (unfold CD; decide))) dX10_key_18 rfl kX10_refuse lk_X10_121 rfl O28 (by decide) rfl (Nat.le_of_ble_eq_true rfl) (fun v_4 h_4 qh_4 => ?_)
    obtain ⟨rfl, n0h_4, eh_4⟩ := qh_4
    replace O28 := n0h_4
    replace hf : ∀ i, i ≠ 28 → h_4 i = h i := fun i g0 => (eh_4 i g0).trans (hf i g0)
    have ew : w01 v = -2 := by
      first | (simp only [c12, if_true, if_false, ite_true, ite_false, and_true, true_and, and_false, false_and, and_self, or_true, true_or, or_false, false_or, or_self, not_true_eq_false, not_false_eq_true, decide_true, decide_false, Bool.and_true, Bool.true_and, Bool.and_false, Bool.false_and, Bool.and_self, Bool.or_true, Bool.true_or, Bool.or_false, Bool.false_or, Bool.not_true, Bool.not_false, cond_true, cond_false, bI_t, bI_f, Bool.false_eq_true, Bool.true_eq_false, dayC_1, dayC_21, dayC_221, dayC_222, w01, wP, wPL, wP01, wL01, wRow, w01R, wAB, wNum, isP, isL]; done) | exact cl_f
    refine A_iret dX10_key_21 rfl ⟨_, rfl, (by rw [ew]; exact rV_n (by decide)), _, (by rw [ew]; first | (rw [rS_0]; exact O28) | exact O28), hf⟩
