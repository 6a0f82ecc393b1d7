/-! the reference: how letters are read -/
def hrV (t : FI) (n q : Nat) : Int32 := if q < n then t q else -1
def dgB (t : FI) (n q : Nat) : Bool := decide (48 ≤ hrV t n q ∧ hrV t n q ≤ 57)
def rdS (t : FI) (n : Nat) (s : Nat × Bool × Int32) : Nat × Bool × Int32 := (if (s.2.1 || !dgB t n s.1) = true then s.1 else s.1 + 1, (s.2.1 || !dgB t n s.1), if (s.2.1 || !dgB t n s.1) = true then 0 else 10 * s.2.2 + t s.1 - 48)
theorem inI_48 (v : Int32) : inI v.toInt64 48 57 = decide (48 ≤ v ∧ v ≤ 57) := inI_lit rfl rfl
theorem dgB_lt {t : FI} {n q : Nat} (h : dgB t n q = true) : q < n := by
  unfold dgB hrV at h
  by_cases c : q < n
  · exact c
  · rw [if_neg c] at h
    exact absurd h (by decide)
theorem ndg {b : Bool} {t : FI} {n q : Nat} (h : (b || !dgB t n q) = false) : b = false ∧ dgB t n q = true := by
  cases b <;> cases e : dgB t n q <;> rw [e] at h <;> first | (cases h; done) | exact ⟨rfl, rfl⟩
theorem st_n (q : Nat) (B : Bool) : nI q + (if B = true then 0 else 1) = nI (if B = true then q else q + 1) := by
  cases B
  · exact n41 q
  · show nI q + 0 = nI q
    rw [Int32.add_zero]
theorem rdS_le {t : FI} {n : Nat} {s : Nat × Bool × Int32} (h : s.1 ≤ n) : (rdS t n s).1 ≤ n := by
  unfold rdS
  cases e : (s.2.1 || !dgB t n s.1)
  · show s.1 + 1 ≤ n
    exact dgB_lt (ndg e).2
  · exact h
set_option maxHeartbeats 4000000 in
set_option maxRecDepth 100000 in
theorem S_X10_here (X : En) (l : Launch) {h : Hp} {x : PW} {c : RC} {rd : RD} {q : Nat} {b : Bool} {s : Nat} {pl lo tl : FI} {ry : RY} {rs : RS} (O28 : h 28 = some (rB x (-1) c (rd, (q, bI b, s, pl, lo, tl), ry, rs))) (hn : c.2.2.1 ≤ 96) (hq : q ≤ c.2.2.1) : Ct X l mX10_here [aR 28 0] h (QI (PI0 (hrV c.2.1 c.2.2.1 q) h)) := by
  refine Ct.intro [some (aR 28 0)] (by decide +kernel) rfl (Nat.le_of_ble_eq_true rfl) ?_
  refine A_aload_n 1 dX10_here_0 rfl rfl rfl ?_
  refine A_getfield 4 dX10_here_1 rfl f_X10_127 O28 rfl ?_
  try dsimp only
  refine A_aload_n 5 dX10_here_4 rfl rfl rfl ?_
  refine A_getfield 8 dX10_here_5 rfl f_X10_124 O28 rfl ?_
  try dsimp only
  refine A_icmp_ge 23 11 dX10_here_8 (by decide) rfl (fun c8 => ?_) (fun c8 => ?_)
  · skip
    try simp only [bI_0, bI_n0, Classical.not_not, Bool.not_eq_false, Bool.true_and, Bool.and_true, decide_eq_true_eq, decide_eq_false_iff_not, dayC_1, dayC_21, dayC_221, dayC_222, inI_1, inI_2, inI_3, inI_5, inI_11, inI_16] at c8
    have n8 := c8
    replace c8 := Int32.not_lt.mpr c8
    have cl_q : ¬ q < c.2.2.1 := by
      have z := (nle_iff (a := c.2.2.1) (b := q) (by omega) (by omega)).mp n8
      omega
    refine A_iconst 24 (-1) dX10_here_23 rfl (by decide) ?_
    refine A_iret dX10_here_24 rfl ⟨_, rfl, (by first | with_reducible rfl | (simp only [c8, n8, cl_q, if_true, if_false, ite_true, ite_false, and_true, true_and, and_false, false_and, and_self, or_true, true_or, or_false, false_or, or_self, not_true_eq_false, not_false_eq_true, decide_true, decide_false, Bool.and_true, Bool.true_and, Bool.and_false, Bool.false_and, Bool.and_self, Bool.or_true, Bool.true_or, Bool.or_false, Bool.false_or, Bool.not_true, Bool.not_false, cond_true, cond_false, bI_t, bI_f, Bool.false_eq_true, Bool.true_eq_false, dayC_1, dayC_21, dayC_221, dayC_222, hrV]; done) | (simp only [*]; done) | (simp [bI, *, hrV]; done) | with_reducible_and_instances rfl), rfl⟩
  · skip
    try simp only [bI_0, bI_n0, Classical.not_not, Bool.not_eq_false, Bool.true_and, Bool.and_true, decide_eq_true_eq, decide_eq_false_iff_not, dayC_1, dayC_21, dayC_221, dayC_222, inI_1, inI_2, inI_3, inI_5, inI_11, inI_16] at c8
    have n8 := c8
    replace c8 := Int32.not_le.mp c8
    have cl_q : q < c.2.2.1 := by
      have z := mt (nle_iff (a := c.2.2.1) (b := q) (by omega) (by omega)).mpr (fun z => Int32.lt_irrefl (Int32.lt_of_lt_of_le c8 z))
      omega
    refine A_aload_n 12 dX10_here_11 rfl rfl rfl ?_
    refine A_getfield 15 dX10_here_12 rfl f_X10_38 O28 rfl ?_
    refine A_aload_n 16 dX10_here_15 rfl rfl rfl ?_
    refine A_getfield 19 dX10_here_16 rfl f_X10_127 O28 rfl ?_
    try dsimp only
    refine A_iaload 20 dX10_here_19 rfl O28 rfl (by first | assumption | exact ix_nI (by omega) (by decide) | exact ix_lit _ rfl (by omega) (by decide) | exact ix_lit _ rfl (by decide) (by decide)) ?_
    try dsimp only
    refine A_goto 24 dX10_here_20 (by decide) ?_
    refine A_iret dX10_here_24 rfl ⟨_, rfl, (by first | with_reducible rfl | (simp only [c8, n8, cl_q, if_true, if_false, ite_true, ite_false, and_true, true_and, and_false, false_and, and_self, or_true, true_or, or_false, false_or, or_self, not_true_eq_false, not_false_eq_true, decide_true, decide_false, Bool.and_true, Bool.true_and, Bool.and_false, Bool.false_and, Bool.and_self, Bool.or_true, Bool.true_or, Bool.or_false, Bool.false_or, Bool.not_true, Bool.not_false, cond_true, cond_false, bI_t, bI_f, Bool.false_eq_true, Bool.true_eq_false, dayC_1, dayC_21, dayC_221, dayC_222, hrV]; done) | (simp only [*]; done) | (simp [bI, *, hrV]; done) | with_reducible_and_instances rfl), rfl⟩
set_option maxHeartbeats 4000000 in
set_option maxRecDepth 100000 in
theorem S_X10_readDigits (X : En) (l : Launch) {h : Hp} {x : PW} {c : RC} {rd : RD} {q : Nat} {b : Bool} {s : Nat} {pl lo tl : FI} {ry : RY} {rs : RS} (O28 : h 28 = some (rB x (-1) c (rd, (q, bI b, s, pl, lo, tl), ry, rs))) (hn : c.2.2.1 ≤ 96) (hq : q ≤ c.2.2.1) {k : Nat} (hk : k < 5) : Ct X l mX10_readDigits [aR 28 0, aI (nI k)] h (QI (PI1 ((foldN (fun _ s => rdS c.2.1 c.2.2.1 s) (q, b, 0) k).2.2) h (28) (rB x (-1) c (rd, ((foldN (fun _ s => rdS c.2.1 c.2.2.1 s) (q, b, 0) k).1, bI (foldN (fun _ s => rdS c.2.1 c.2.2.1 s) (q, b, 0) k).2.1, s, pl, lo, tl), ry, rs)))) := by
  have hf : ∀ i, i ≠ 28 → h i = h i := fun _ _ => rfl
  refine Ct.intro [some (aR 28 0), some (aI (nI k)), none, none] (by decide +kernel) rfl (Nat.le_of_ble_eq_true rfl) ?_
  refine A_iconst 1 (0) dX10_readDigits_0 rfl (by decide) ?_
  refine A_istore_n 2 dX10_readDigits_1 rfl rfl (by decide) (by first | exact (ast_s (ast_1 rfl)) | exact (ast_s ast_k)) ?_
  refine A_iconst 3 (0) dX10_readDigits_2 rfl (by decide) ?_
  refine A_istore_n 4 dX10_readDigits_3 rfl rfl (by decide) (by first | exact (ast_s (ast_s (ast_1 rfl))) | exact (ast_s (ast_s ast_k))) ?_
  have L4 : ∀ (nq i : Nat) (q2 : Nat) (b2 : Bool) (w : Int32) (g4 : Hp) , (nq + i = k) → (foldN (fun _ s => rdS c.2.1 c.2.2.1 s) ((q, b, 0)) i = (q2, b2, w)) → (q2 ≤ c.2.2.1) → (g4 28 = some (rB x (-1) c (rd, (q2, bI b2, s, pl, lo, tl), ry, rs))) → (∀ i, i ≠ 28 → g4 i = h i) → Av X l mX10_readDigits 4 [some (aR 28 0), some (aI (nI (k))), some (aI (w)), some (aI (nI (i)))] [] g4 (QI (PI1 ((foldN (fun _ s => rdS c.2.1 c.2.2.1 s) (q, b, 0) k).2.2) h (28) (rB x (-1) c (rd, ((foldN (fun _ s => rdS c.2.1 c.2.2.1 s) (q, b, 0) k).1, bI (foldN (fun _ s => rdS c.2.1 c.2.2.1 s) (q, b, 0) k).2.1, s, pl, lo, tl), ry, rs)))) := by
    intro nq
    induction nq using Nat.strongRecOn with
    | _ nq ih =>
    intro i q2 b2 w g4 en ee hy O28 hf
    refine A_iload_n 5 dX10_readDigits_4 rfl rfl rfl ?_
    refine A_iload_n 6 dX10_readDigits_5 rfl rfl rfl ?_
    refine A_icmp_ge 98 9 dX10_readDigits_6 (by decide) rfl (fun c6 => ?_) (fun c6 => ?_)
    · skip
      obtain rfl := (up_ge_T (N := k) c6 rfl (by omega) (by omega)).symm
      refine A_iload_n 99 dX10_readDigits_98 rfl rfl rfl ?_
      refine A_iret dX10_readDigits_99 rfl ⟨_, rfl, (by rw [ee]), (by rw [ee]; exact O28), hf⟩
    · skip
      have hi := up_ge_F (N := k) c6 rfl (by omega) (by omega)
      obtain ⟨n0, rfl⟩ : ∃ q, nq = q + 1 := ⟨nq - 1, by omega⟩
      refine A_aload_n 10 dX10_readDigits_9 rfl rfl rfl ?_
      refine A_joinI 39 (fun vj => vj = bI (b2 || !dgB c.2.1 c.2.2.1 q2)) (fun j39 => ?_) (fun v39 e39 => ?_)
      · skip
        refine A_aload_n 11 dX10_readDigits_10 rfl rfl rfl ?_
        refine A_getfield 14 dX10_readDigits_11 rfl f_X10_130 O28 rfl ?_
        try dsimp only
        refine A_if_ne 34 17 dX10_readDigits_14 (by decide) rfl (fun c14 => ?_) (fun c14 => ?_)
        · skip
          try simp only [bI_0, bI_n0, Classical.not_not, Bool.not_eq_false, Bool.true_and, Bool.and_true, decide_eq_true_eq, decide_eq_false_iff_not, dayC_1, dayC_21, dayC_221, dayC_222, inI_48] at c14
          refine A_iconst 35 (1) dX10_readDigits_34 rfl (by decide) ?_
          refine A_goto 39 dX10_readDigits_35 (by decide) ?_
          exact j39 _ (by first | (simp only [c14, if_true, if_false, ite_true, ite_false, and_true, true_and, and_false, false_and, and_self, or_true, true_or, or_false, false_or, or_self, not_true_eq_false, not_false_eq_true, decide_true, decide_false, Bool.and_true, Bool.true_and, Bool.and_false, Bool.false_and, Bool.and_self, Bool.or_true, Bool.true_or, Bool.or_false, Bool.false_or, Bool.not_true, Bool.not_false, cond_true, cond_false, bI_t, bI_f, Bool.false_eq_true, Bool.true_eq_false, dayC_1, dayC_21, dayC_221, dayC_222, dgB, bI]; done) | (simp [dgB, *]; done))
        · skip
          try simp only [bI_0, bI_n0, Classical.not_not, Bool.not_eq_false, Bool.true_and, Bool.and_true, decide_eq_true_eq, decide_eq_false_iff_not, dayC_1, dayC_21, dayC_221, dayC_222, inI_48] at c14
          refine A_aload_n 18 dX10_readDigits_17 rfl rfl rfl ?_
          refine A_callVI 21 (S_X10_here X l (by first | assumption | decide | omega | exact Ne.symm (by assumption)) (by first | assumption | decide | omega | exact Ne.symm (by assumption)) (by first | assumption | decide | omega | exact Ne.symm (by assumption))) dX10_readDigits_18 rfl kX10_here lk_X10_134 rfl O28 (by decide) rfl (Nat.le_of_ble_eq_true rfl) (fun v_1 h_1 qh_1 => ?_)
          obtain ⟨rfl, rfl⟩ := qh_1
          refine A_i2l 22 dX10_readDigits_21 rfl ?_
          refine A_ldc2_w 25 _ dX10_readDigits_22 rfl cn_X10_138 ?_
          refine A_ldc2_w 28 _ dX10_readDigits_25 rfl cn_X10_140 ?_
          refine A_callSI 31 (S_X10_in X l) dX10_readDigits_28 rfl kX10_in lk_X10_84 rfl (by decide) rfl (Nat.le_of_ble_eq_true rfl) (fun v_2 h_2 qh_2 => ?_)
          obtain ⟨rfl, rfl⟩ := qh_2
          refine A_if_ne 38 34 dX10_readDigits_31 (by decide) rfl (fun c31 => ?_) (fun c31 => ?_)
          · skip
            try simp only [bI_0, bI_n0, Classical.not_not, Bool.not_eq_false, Bool.true_and, Bool.and_true, decide_eq_true_eq, decide_eq_false_iff_not, dayC_1, dayC_21, dayC_221, dayC_222, inI_48] at c31
            refine A_iconst 39 (0) dX10_readDigits_38 rfl (by decide) ?_
            exact j39 _ (by first | (simp only [c14, c31, if_true, if_false, ite_true, ite_false, and_true, true_and, and_false, false_and, and_self, or_true, true_or, or_false, false_or, or_self, not_true_eq_false, not_false_eq_true, decide_true, decide_false, Bool.and_true, Bool.true_and, Bool.and_false, Bool.false_and, Bool.and_self, Bool.or_true, Bool.true_or, Bool.or_false, Bool.false_or, Bool.not_true, Bool.not_false, cond_true, cond_false, bI_t, bI_f, Bool.false_eq_true, Bool.true_eq_false, dayC_1, dayC_21, dayC_221, dayC_222, dgB, bI]; done) | (simp only [eq_true c14, c31, if_true, if_false, ite_true, ite_false, and_true, true_and, and_false, false_and, and_self, or_true, true_or, or_false, false_or, or_self, not_true_eq_false, not_false_eq_true, decide_true, decide_false, Bool.and_true, Bool.true_and, Bool.and_false, Bool.false_and, Bool.and_self, Bool.or_true, Bool.true_or, Bool.or_false, Bool.false_or, Bool.not_true, Bool.not_false, cond_true, cond_false, bI_t, bI_f, Bool.false_eq_true, Bool.true_eq_false, dayC_1, dayC_21, dayC_221, dayC_222, dgB, bI]; done) | (simp [dgB, *]; done))
          · skip
            try simp only [bI_0, bI_n0, Classical.not_not, Bool.not_eq_false, Bool.true_and, Bool.and_true, decide_eq_true_eq, decide_eq_false_iff_not, dayC_1, dayC_21, dayC_221, dayC_222, inI_48] at c31
            refine A_iconst 35 (1) dX10_readDigits_34 rfl (by decide) ?_
            refine A_goto 39 dX10_readDigits_35 (by decide) ?_
            exact j39 _ (by first | (simp only [c14, c31, if_true, if_false, ite_true, ite_false, and_true, true_and, and_false, false_and, and_self, or_true, true_or, or_false, false_or, or_self, not_true_eq_false, not_false_eq_true, decide_true, decide_false, Bool.and_true, Bool.true_and, Bool.and_false, Bool.false_and, Bool.and_self, Bool.or_true, Bool.true_or, Bool.or_false, Bool.false_or, Bool.not_true, Bool.not_false, cond_true, cond_false, bI_t, bI_f, Bool.false_eq_true, Bool.true_eq_false, dayC_1, dayC_21, dayC_221, dayC_222, dgB, bI]; done) | (simp only [eq_true c14, c31, if_true, if_false, ite_true, ite_false, and_true, true_and, and_false, false_and, and_self, or_true, true_or, or_false, false_or, or_self, not_true_eq_false, not_false_eq_true, decide_true, decide_false, Bool.and_true, Bool.true_and, Bool.and_false, Bool.false_and, Bool.and_self, Bool.or_true, Bool.true_or, Bool.or_false, Bool.false_or, Bool.not_true, Bool.not_false, cond_true, cond_false, bI_t, bI_f, Bool.false_eq_true, Bool.true_eq_false, dayC_1, dayC_21, dayC_221, dayC_222, dgB, bI]; done) | (simp [dgB, *]; done))
      subst e39
      refine P_X10_17 42 dX10_readDigits_39 rfl fw_X10_130 O28 (by first | with_reducible exact bI01 _ | with_reducible exact Or.inl rfl | with_reducible exact Or.inr rfl | assumption) (fun h_3 nh_3 eh_3 => ?_)
      replace O28 := nh_3
      replace hf : ∀ i, i ≠ 28 → h_3 i = h i := fun i g0 => (eh_3 i g0).trans (hf i g0)
      try dsimp only at O28
      refine A_joinI 70 (fun vj => vj = if (b2 || !dgB c.2.1 c.2.2.1 q2) = true then 0 else 10 * w + c.2.1 q2 - 48) (fun j70 => ?_) (fun v70 e70 => ?_)
      · skip
        refine A_aload_n 43 dX10_readDigits_42 rfl rfl rfl ?_
        refine A_getfield 46 dX10_readDigits_43 rfl f_X10_130 O28 rfl ?_
        try dsimp only
        refine A_if_eq 53 49 dX10_readDigits_46 (by decide) rfl (fun c46 => ?_) (fun c46 => ?_)
        · skip
          try simp only [bI_0, bI_n0, Classical.not_not, Bool.not_eq_false, Bool.true_and, Bool.and_true, decide_eq_true_eq, decide_eq_false_iff_not, dayC_1, dayC_21, dayC_221, dayC_222, inI_48] at c46
          have hq5 := dgB_lt (ndg c46).2
          refine A_bipush 55 (10) dX10_readDigits_53 rfl (by decide) ?_
          refine A_iload_n 56 dX10_readDigits_55 rfl rfl rfl ?_
          refine A_imul 57 dX10_readDigits_56 rfl ?_
          refine A_aload_n 58 dX10_readDigits_57 rfl rfl rfl ?_
          refine A_getfield 61 dX10_readDigits_58 rfl f_X10_38 O28 rfl ?_
          refine A_aload_n 62 dX10_readDigits_61 rfl rfl rfl ?_
          refine A_getfield 65 dX10_readDigits_62 rfl f_X10_127 O28 rfl ?_
          try dsimp only
          refine A_iaload 66 dX10_readDigits_65 rfl O28 rfl (by first | assumption | exact ix_nI (by omega) (by decide) | exact ix_lit _ rfl (by omega) (by decide) | exact ix_lit _ rfl (by decide) (by decide)) ?_
          try dsimp only
          refine A_iadd 67 dX10_readDigits_66 rfl ?_
          refine A_bipush 69 (48) dX10_readDigits_67 rfl (by decide) ?_
          refine A_isub 70 dX10_readDigits_69 rfl ?_
          exact j70 _ (by first | rw [if_pos c46] | rw [if_neg (by rw [c46]; decide)])
        · skip
          try simp only [bI_0, bI_n0, Classical.not_not, Bool.not_eq_false, Bool.true_and, Bool.and_true, decide_eq_true_eq, decide_eq_false_iff_not, dayC_1, dayC_21, dayC_221, dayC_222, inI_48] at c46
          refine A_iconst 50 (0) dX10_readDigits_49 rfl (by decide) ?_
          refine A_goto 70 dX10_readDigits_50 (by decide) ?_
          exact j70 _ (by first | rw [if_pos c46] | rw [if_neg (by rw [c46]; decide)])
      subst e70
      refine A_istore_n 71 dX10_readDigits_70 rfl rfl (by decide) (by first | exact (ast_s (ast_1 rfl)) | exact (ast_s ast_k)) ?_
      refine A_aload_n 72 dX10_readDigits_71 rfl rfl rfl ?_
      refine A_dup 73 dX10_readDigits_72 rfl rfl ?_
      refine A_getfield 76 dX10_readDigits_73 rfl f_X10_127 O28 rfl ?_
      try dsimp only
      refine A_joinI 88 (fun vj => vj = if (b2 || !dgB c.2.1 c.2.2.1 q2) = true then 0 else 1) (fun j88 => ?_) (fun v88 e88 => ?_)
      · skip
        refine A_aload_n 77 dX10_readDigits_76 rfl rfl rfl ?_
        refine A_getfield 80 dX10_readDigits_77 rfl f_X10_130 O28 rfl ?_
        try dsimp only
        refine A_if_eq 87 83 dX10_readDigits_80 (by decide) rfl (fun c80 => ?_) (fun c80 => ?_)
        · skip
          try simp only [bI_0, bI_n0, Classical.not_not, Bool.not_eq_false, Bool.true_and, Bool.and_true, decide_eq_true_eq, decide_eq_false_iff_not, dayC_1, dayC_21, dayC_221, dayC_222, inI_48] at c80
          refine A_iconst 88 (1) dX10_readDigits_87 rfl (by decide) ?_
          exact j88 _ (by first | rw [if_pos c80] | rw [if_neg (by rw [c80]; decide)])
        · skip
          try simp only [bI_0, bI_n0, Classical.not_not, Bool.not_eq_false, Bool.true_and, Bool.and_true, decide_eq_true_eq, decide_eq_false_iff_not, dayC_1, dayC_21, dayC_221, dayC_222, inI_48] at c80
          refine A_iconst 84 (0) dX10_readDigits_83 rfl (by decide) ?_
          refine A_goto 88 dX10_readDigits_84 (by decide) ?_
          exact j88 _ (by first | rw [if_pos c80] | rw [if_neg (by rw [c80]; decide)])
      subst e88
      refine A_iadd 89 dX10_readDigits_88 rfl ?_
      rw [st_n]
      refine P_X10_16 92 dX10_readDigits_89 rfl fw_X10_127 O28 (fun h_4 nh_4 eh_4 => ?_)
      replace O28 := nh_4
      replace hf : ∀ i, i ≠ 28 → h_4 i = h i := fun i g0 => (eh_4 i g0).trans (hf i g0)
      try dsimp only at O28
      first | refine A_iincN 95 dX10_readDigits_92 rfl rfl (by decide) (by first | exact (ast_s (ast_s (ast_1 rfl))) | exact (ast_s (ast_s ast_k))) ?_ | refine A_iinc 95 (1) dX10_readDigits_92 rfl rfl (by decide) (by decide) (by first | exact (ast_s (ast_s (ast_1 rfl))) | exact (ast_s (ast_s ast_k))) ?_
      refine A_goto 4 dX10_readDigits_95 (by decide) ?_
      exact ih n0 (Nat.lt_succ_self n0) (i + 1) _ _ _ h_4  (by omega) ((foldN_s (fun _ s => rdS c.2.1 c.2.2.1 s) ((q, b, 0)) i).trans ((congrArg ((fun _ s => rdS c.2.1 c.2.2.1 s) i) ee).trans (by rfl))) (rdS_le (s := (q2, b2, w)) hy) O28 hf
  exact L4 (k) (0) (_) (_) (_) h  (by omega) (rfl) (hq) O28 hf
set_option maxHeartbeats 4000000 in
set_option maxRecDepth 100000 in
theorem S_X10_isLetter (X : En) (l : Launch) {h : Hp} {v : Int32} : Ct X l mX10_isLetter [aI v] h (QI (PI0 (bI (decide (¬ DB v < 0))) h)) := by
  refine Ct.intro [some (aI v)] (by decide +kernel) rfl (Nat.le_of_ble_eq_true rfl) ?_
  refine A_iload_n 1 dX10_isLetter_0 rfl rfl rfl ?_
  refine A_bipush 3 (108) dX10_isLetter_1 rfl (by decide) ?_
  refine A_icmp_eq 36 6 dX10_isLetter_3 (by decide) rfl (fun c3 => ?_) (fun c3 => ?_)
  · skip
    try simp only [bI_0, bI_n0, Classical.not_not, Bool.not_eq_false, Bool.true_and, Bool.and_true, decide_eq_true_eq, decide_eq_false_iff_not, dayC_1, dayC_21, dayC_221, dayC_222, inI_1, inI_2, inI_3, inI_5, inI_11, inI_16] at c3
    refine A_iconst 37 (1) dX10_isLetter_36 rfl (by decide) ?_
    refine A_goto 41 dX10_isLetter_37 (by decide) ?_
    refine A_zret dX10_isLetter_41 rfl (by first | with_reducible exact bI01 _ | with_reducible exact Or.inl rfl | with_reducible exact Or.inr rfl | assumption) ⟨_, rfl, (by first | (subst c3; rfl) | (subst c9; rfl) | (subst c15; rfl) | (subst c21; rfl) | (subst c27; rfl) | (subst c33; rfl) | (unfold DB; rw [if_neg c21, if_neg c33, if_neg c3, if_neg c9, if_neg c15, if_neg c27]; rfl)), rfl⟩
  · skip
    try simp only [bI_0, bI_n0, Classical.not_not, Bool.not_eq_false, Bool.true_and, Bool.and_true, decide_eq_true_eq, decide_eq_false_iff_not, dayC_1, dayC_21, dayC_221, dayC_222, inI_1, inI_2, inI_3, inI_5, inI_11, inI_16] at c3
    refine A_iload_n 7 dX10_isLetter_6 rfl rfl rfl ?_
    refine A_bipush 9 (112) dX10_isLetter_7 rfl (by decide) ?_
    refine A_icmp_eq 36 12 dX10_isLetter_9 (by decide) rfl (fun c9 => ?_) (fun c9 => ?_)
    · skip
      try simp only [bI_0, bI_n0, Classical.not_not, Bool.not_eq_false, Bool.true_and, Bool.and_true, decide_eq_true_eq, decide_eq_false_iff_not, dayC_1, dayC_21, dayC_221, dayC_222, inI_1, inI_2, inI_3, inI_5, inI_11, inI_16] at c9
      refine A_iconst 37 (1) dX10_isLetter_36 rfl (by decide) ?_
      refine A_goto 41 dX10_isLetter_37 (by decide) ?_
      refine A_zret dX10_isLetter_41 rfl (by first | with_reducible exact bI01 _ | with_reducible exact Or.inl rfl | with_reducible exact Or.inr rfl | assumption) ⟨_, rfl, (by first | (subst c3; rfl) | (subst c9; rfl) | (subst c15; rfl) | (subst c21; rfl) | (subst c27; rfl) | (subst c33; rfl) | (unfold DB; rw [if_neg c21, if_neg c33, if_neg c3, if_neg c9, if_neg c15, if_neg c27]; rfl)), rfl⟩
    · skip
      try simp only [bI_0, bI_n0, Classical.not_not, Bool.not_eq_false, Bool.true_and, Bool.and_true, decide_eq_true_eq, decide_eq_false_iff_not, dayC_1, dayC_21, dayC_221, dayC_222, inI_1, inI_2, inI_3, inI_5, inI_11, inI_16] at c9
      refine A_iload_n 13 dX10_isLetter_12 rfl rfl rfl ?_
      refine A_bipush 15 (116) dX10_isLetter_13 rfl (by decide) ?_
      refine A_icmp_eq 36 18 dX10_isLetter_15 (by decide) rfl (fun c15 => ?_) (fun c15 => ?_)
      · skip
        try simp only [bI_0, bI_n0, Classical.not_not, Bool.not_eq_false, Bool.true_and, Bool.and_true, decide_eq_true_eq, decide_eq_false_iff_not, dayC_1, dayC_21, dayC_221, dayC_222, inI_1, inI_2, inI_3, inI_5, inI_11, inI_16] at c15
        refine A_iconst 37 (1) dX10_isLetter_36 rfl (by decide) ?_
        refine A_goto 41 dX10_isLetter_37 (by decide) ?_
        refine A_zret dX10_isLetter_41 rfl (by first | with_reducible exact bI01 _ | with_reducible exact Or.inl rfl | with_reducible exact Or.inr rfl | assumption) ⟨_, rfl, (by first | (subst c3; rfl) | (subst c9; rfl) | (subst c15; rfl) | (subst c21; rfl) | (subst c27; rfl) | (subst c33; rfl) | (unfold DB; rw [if_neg c21, if_neg c33, if_neg c3, if_neg c9, if_neg c15, if_neg c27]; rfl)), rfl⟩
      · skip
        try simp only [bI_0, bI_n0, Classical.not_not, Bool.not_eq_false, Bool.true_and, Bool.and_true, decide_eq_true_eq, decide_eq_false_iff_not, dayC_1, dayC_21, dayC_221, dayC_222, inI_1, inI_2, inI_3, inI_5, inI_11, inI_16] at c15
        refine A_iload_n 19 dX10_isLetter_18 rfl rfl rfl ?_
        refine A_bipush 21 (98) dX10_isLetter_19 rfl (by decide) ?_
        refine A_icmp_eq 36 24 dX10_isLetter_21 (by decide) rfl (fun c21 => ?_) (fun c21 => ?_)
        · skip
          try simp only [bI_0, bI_n0, Classical.not_not, Bool.not_eq_false, Bool.true_and, Bool.and_true, decide_eq_true_eq, decide_eq_false_iff_not, dayC_1, dayC_21, dayC_221, dayC_222, inI_1, inI_2, inI_3, inI_5, inI_11, inI_16] at c21
          refine A_iconst 37 (1) dX10_isLetter_36 rfl (by decide) ?_
          refine A_goto 41 dX10_isLetter_37 (by decide) ?_
          refine A_zret dX10_isLetter_41 rfl (by first | with_reducible exact bI01 _ | with_reducible exact Or.inl rfl | with_reducible exact Or.inr rfl | assumption) ⟨_, rfl, (by first | (subst c3; rfl) | (subst c9; rfl) | (subst c15; rfl) | (subst c21; rfl) | (subst c27; rfl) | (subst c33; rfl) | (unfold DB; rw [if_neg c21, if_neg c33, if_neg c3, if_neg c9, if_neg c15, if_neg c27]; rfl)), rfl⟩
        · skip
          try simp only [bI_0, bI_n0, Classical.not_not, Bool.not_eq_false, Bool.true_and, Bool.and_true, decide_eq_true_eq, decide_eq_false_iff_not, dayC_1, dayC_21, dayC_221, dayC_222, inI_1, inI_2, inI_3, inI_5, inI_11, inI_16] at c21
          refine A_iload_n 25 dX10_isLetter_24 rfl rfl rfl ?_
          refine A_bipush 27 (120) dX10_isLetter_25 rfl (by decide) ?_
          refine A_icmp_eq 36 30 dX10_isLetter_27 (by decide) rfl (fun c27 => ?_) (fun c27 => ?_)
          · skip
            try simp only [bI_0, bI_n0, Classical.not_not, Bool.not_eq_false, Bool.true_and, Bool.and_true, decide_eq_true_eq, decide_eq_false_iff_not, dayC_1, dayC_21, dayC_221, dayC_222, inI_1, inI_2, inI_3, inI_5, inI_11, inI_16] at c27
            refine A_iconst 37 (1) dX10_isLetter_36 rfl (by decide) ?_
            refine A_goto 41 dX10_isLetter_37 (by decide) ?_
            refine A_zret dX10_isLetter_41 rfl (by first | with_reducible exact bI01 _ | with_reducible exact Or.inl rfl | with_reducible exact Or.inr rfl | assumption) ⟨_, rfl, (by first | (subst c3; rfl) | (subst c9; rfl) | (subst c15; rfl) | (subst c21; rfl) | (subst c27; rfl) | (subst c33; rfl) | (unfold DB; rw [if_neg c21, if_neg c33, if_neg c3, if_neg c9, if_neg c15, if_neg c27]; rfl)), rfl⟩
          · skip
            try simp only [bI_0, bI_n0, Classical.not_not, Bool.not_eq_false, Bool.true_and, Bool.and_true, decide_eq_true_eq, decide_eq_false_iff_not, dayC_1, dayC_21, dayC_221, dayC_222, inI_1, inI_2, inI_3, inI_5, inI_11, inI_16] at c27
            refine A_iload_n 31 dX10_isLetter_30 rfl rfl rfl ?_
            refine A_bipush 33 (100) dX10_isLetter_31 rfl (by decide) ?_
            refine A_icmp_ne 40 36 dX10_isLetter_33 (by decide) rfl (fun c33 => ?_) (fun c33 => ?_)
            · skip
              try simp only [bI_0, bI_n0, Classical.not_not, Bool.not_eq_false, Bool.true_and, Bool.and_true, decide_eq_true_eq, decide_eq_false_iff_not, dayC_1, dayC_21, dayC_221, dayC_222, inI_1, inI_2, inI_3, inI_5, inI_11, inI_16] at c33
              refine A_iconst 41 (0) dX10_isLetter_40 rfl (by decide) ?_
              refine A_zret dX10_isLetter_41 rfl (by first | with_reducible exact bI01 _ | with_reducible exact Or.inl rfl | with_reducible exact Or.inr rfl | assumption) ⟨_, rfl, (by first | (subst c3; rfl) | (subst c9; rfl) | (subst c15; rfl) | (subst c21; rfl) | (subst c27; rfl) | (subst c33; rfl) | (unfold DB; rw [if_neg c21, if_neg c33, if_neg c3, if_neg c9, if_neg c15, if_neg c27]; rfl)), rfl⟩
            · skip
              try simp only [bI_0, bI_n0, Classical.not_not, Bool.not_eq_false, Bool.true_and, Bool.and_true, decide_eq_true_eq, decide_eq_false_iff_not, dayC_1, dayC_21, dayC_221, dayC_222, inI_1, inI_2, inI_3, inI_5, inI_11, inI_16] at c33
              refine A_iconst 37 (1) dX10_isLetter_36 rfl (by decide) ?_
              refine A_goto 41 dX10_isLetter_37 (by decide) ?_
              refine A_zret dX10_isLetter_41 rfl (by first | with_reducible exact bI01 _ | with_reducible exact Or.inl rfl | with_reducible exact Or.inr rfl | assumption) ⟨_, rfl, (by first | (subst c3; rfl) | (subst c9; rfl) | (subst c15; rfl) | (subst c21; rfl) | (subst c27; rfl) | (subst c33; rfl) | (unfold DB; rw [if_neg c21, if_neg c33, if_neg c3, if_neg c9, if_neg c15, if_neg c27]; rfl)), rfl⟩
