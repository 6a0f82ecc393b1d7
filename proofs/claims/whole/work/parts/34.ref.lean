/-! the reference: how letters are read -/
def hrV (t : FI) (n q : Nat) : Int32 := if q < n then t q else -1
def dgB (t : FI) (n q : Nat) : Bool := decide (48 ≤ hrV t n q ∧ hrV t n q ≤ 57)
def rdS (t : FI) (n : Nat) (s : Nat × Bool × Int32) : Nat × Bool × Int32 := (if (s.2.1 || !dgB t n s.1) = true then s.1 else s.1 + 1, (s.2.1 || !dgB t n s.1), if (s.2.1 || !dgB t n s.1) = true then 0 else 10 * s.2.2 + t s.1 - 48)
theorem inI_48 (v : Int32) : inI v.toInt64 48 57 = decide (48 ≤ v ∧ v ≤ 57) := inI_lit rfl rfl
theorem dgB_lt {t : FI} {n q : Nat} (h : dgB t n q = true) : q < n := by
  unfold dgB hrV at h
  by_cases c : q < n
  · exact c
  · rw [if_neg c] at h
    exact absurd h (by decide)
theorem ndg {b : Bool} {t : FI} {n q : Nat} (h : (b || !dgB t n q) = false) : b = false ∧ dgB t n q = true := by
  cases b <;> cases e : dgB t n q <;> rw [e] at h <;> first | (cases h; done) | exact ⟨rfl, rfl⟩
theorem st_n (q : Nat) (B : Bool) : nI q + (if B = true then 0 else 1) = nI (if B = true then q else q + 1) := by
  cases B
  · exact n41 q
  · show nI q + 0 = nI q
    rw [Int32.add_zero]
theorem rdS_le {t : FI} {n : Nat} {s : Nat × Bool × Int32} (h : s.1 ≤ n) : (rdS t n s).1 ≤ n := by
  unfold rdS
  cases e : (s.2.1 || !dgB t n s.1)
  · show s.1 + 1 ≤ n
    exact dgB_lt (ndg e).2
  · exact h
def rnF (t : FI) (n base j : Nat) (S : Nat × Bool × FI) : Nat × Bool × FI := ((rdS t n (S.1, S.2.1, 0)).1, (rdS t n (S.1, S.2.1, 0)).2.1, va_up S.2.2 (base + j) (rdS t n (S.1, S.2.1, 0)).2.2)
def rnK (v : Int32) : Nat := if v = 108 then 4 else 2
def rd3 (t : FI) (n : Nat) (S : Nat × Bool × FI) : Nat × Bool × Int32 := foldN (fun _ s => rdS t n s) (S.1, S.2.1, 0) 3
def rnA (t : FI) (n : Nat) (v : Int32) (base : Nat) (S : Nat × Bool × FI) : Nat × Bool × FI := if v = 108 ∨ v = 116 ∨ v = 98 then foldN (rnF t n base) S (rnK v) else if v = 112 then ((rd3 t n S).1, (rd3 t n S).2.1, va_up S.2.2 base (rd3 t n S).2.2) else S
theorem rnK_le (v : Int32) : rnK v ≤ 4 := by unfold rnK; split <;> omega
theorem rnA_2 {t : FI} {n : Nat} {v : Int32} {base : Nat} {S : Nat × Bool × FI} (h : v = 112) : rnA t n v base S = ((rd3 t n S).1, (rd3 t n S).2.1, va_up S.2.2 base (rd3 t n S).2.2) := by
  subst h
  exact (if_neg (by decide)).trans (if_pos rfl)
theorem rnA_0 {t : FI} {n : Nat} {v : Int32} {base : Nat} {S : Nat × Bool × FI} (h1 : ¬ v = 108) (h2 : ¬ v = 116) (h3 : ¬ v = 98) (h4 : ¬ v = 112) : rnA t n v base S = S := by
  unfold rnA
  rw [if_neg (by rintro (z | z | z) <;> contradiction), if_neg h4]
theorem rd_le {t : FI} {n k : Nat} {s : Nat × Bool × Int32} (h : s.1 ≤ n) : (foldN (fun _ s => rdS t n s) s k).1 ≤ n :=
  foldN_inv (fun _ s => rdS t n s) s (fun _ s => s.1 ≤ n) h k (fun _ _ _ hs => rdS_le hs)
theorem rnA_le {t : FI} {n : Nat} {v : Int32} {base : Nat} {S : Nat × Bool × FI} (h : S.1 ≤ n) : (rnA t n v base S).1 ≤ n := by
  unfold rnA
  split
  · exact foldN_inv (rnF t n base) S (fun _ s => s.1 ≤ n) h _ (fun _ s _ hs => rdS_le (s := (s.1, s.2.1, 0)) hs)
  · split
    · exact rd_le (s := (S.1, S.2.1, 0)) h
    · exact h
def b1F (t : FI) (n q : Nat) (b : Bool) : Bool := b || decide (DB (hrV t n q) < 0)
def q1F (t : FI) (n q : Nat) (b : Bool) : Nat := if b1F t n q b = true then q else q + 1
def s2F (t : FI) (n s q : Nat) (b : Bool) (tl : FI) : Nat × Bool × FI := if b1F t n q b = true then (q1F t n q b, b1F t n q b, tl) else rnA t n (hrV t n q) (4 * s) (q1F t n q b, b1F t n q b, tl)
def b3F (t : FI) (n : Nat) (S : Nat × Bool × FI) : Bool := S.2.1 || !decide (hrV t n S.1 = 59)
def q3F (t : FI) (n : Nat) (S : Nat × Bool × FI) : Nat := if b3F t n S = true then S.1 else S.1 + 1
theorem hr_lt {t : FI} {n q : Nat} (h : ¬ hrV t n q = -1) : q < n := by
  unfold hrV at h
  by_cases c : q < n
  · exact c
  · rw [if_neg c] at h
    exact absurd rfl h
theorem b1_lt {t : FI} {n q : Nat} {b : Bool} (h : b1F t n q b = false) : b = false ∧ ¬ DB (hrV t n q) < 0 ∧ q < n := by
  unfold b1F at h
  cases b
  case true => cases h
  have h2 : ¬ DB (hrV t n q) < 0 := of_decide_eq_false h
  refine ⟨rfl, h2, hr_lt (t := t) (fun z => ?_)⟩
  rw [z] at h2
  exact h2 (by decide)
theorem q1_le {t : FI} {n q : Nat} {b : Bool} (h : q ≤ n) : q1F t n q b ≤ n := by
  unfold q1F
  cases e : b1F t n q b
  · exact (b1_lt e).2.2
  · exact h
theorem s2_le {t : FI} {n s q : Nat} {b : Bool} {tl : FI} (h : q ≤ n) : (s2F t n s q b tl).1 ≤ n := by
  unfold s2F
  split
  · exact q1_le h
  · exact rnA_le (q1_le h)
theorem q3_le {t : FI} {n : Nat} {S : Nat × Bool × FI} (h : S.1 ≤ n) : q3F t n S ≤ n := by
  unfold q3F
  cases e : b3F t n S
  · unfold b3F at e
    cases e2 : S.2.1 <;> rw [e2] at e
    · have e3 : hrV t n S.1 = 59 := by
        by_cases c : hrV t n S.1 = 59
        · exact c
        · rw [decide_eq_false c] at e; cases e
      exact hr_lt (by rw [e3]; decide)
    · cases e
  · exact h
set_option maxHeartbeats 4000000 in
set_option maxRecDepth 100000 in
theorem S_X10_here (X : En) (l : Launch) {h : Hp} {x : PW} {c : RC} {rd : RD} {q : Nat} {b : Bool} {s : Nat} {pl lo tl : FI} {ry : RY} {rs : RS} (O28 : h 28 = some (rB x (-1) c (rd, (q, bI b, s, pl, lo, tl), ry, rs))) (hn : c.2.2.1 ≤ 96) (hq : q ≤ c.2.2.1) : Ct X l mX10_here [aR 28 0] h (QI (PI0 (hrV c.2.1 c.2.2.1 q) h)) := by
  refine Ct.intro [some (aR 28 0)] (by decide +kernel) rfl (Nat.le_of_ble_eq_true rfl) ?_
  refine A_aload_n 1 dX10_here_0 rfl rfl rfl ?_
  refine A_getfield 4 dX10_here_1 rfl f_X10_127 O28 rfl ?_
  try dsimp only
  refine A_aload_n 5 dX10_here_4 rfl rfl rfl ?_
  refine A_getfield 8 dX10_here_5 rfl f_X10_124 O28 rfl ?_
  try dsimp only
  refine A_icmp_ge 23 11 dX10_here_8 (by decide) rfl (fun c8 => ?_) (fun c8 => ?_)
  · skip
    try simp only [bI_0, bI_n0, Classical.not_not, Bool.not_eq_false, Bool.true_and, Bool.and_true, decide_eq_true_eq, decide_eq_false_iff_not, dayC_1, dayC_21, dayC_221, dayC_222, inI_1, inI_2, inI_3, inI_5, inI_11, inI_16] at c8
    have n8 := c8
    replace c8 := Int32.not_lt.mpr c8
    have cl_q : ¬ q < c.2.2.1 := by
      have z := (nle_iff (a := c.2.2.1) (b := q) (by omega) (by omega)).mp n8
      omega
    refine A_iconst 24 (-1) dX10_here_23 rfl (by decide) ?_
    refine A_iret dX10_here_24 rfl ⟨_, rfl, (by first | with_reducible rfl | (simp only [c8, n8, cl_q, if_true, if_false, ite_true, ite_false, and_true, true_and, and_false, false_and, and_self, or_true, true_or, or_false, false_or, or_self, not_true_eq_false, not_false_eq_true, decide_true, decide_false, Bool.and_true, Bool.true_and, Bool.and_false, Bool.false_and, Bool.and_self, Bool.or_true, Bool.true_or, Bool.or_false, Bool.false_or, Bool.not_true, Bool.not_false, cond_true, cond_false, bI_t, bI_f, Bool.false_eq_true, Bool.true_eq_false, dayC_1, dayC_21, dayC_221, dayC_222, hrV]; done) | (simp only [*]; done) | (simp [bI, *, hrV]; done) | with_reducible_and_instances rfl), rfl⟩
  · skip
    try simp only [bI_0, bI_n0, Classical.not_not, Bool.not_eq_false, Bool.true_and, Bool.and_true, decide_eq_true_eq, decide_eq_false_iff_not, dayC_1, dayC_21, dayC_221, dayC_222, inI_1, inI_2, inI_3, inI_5, inI_11, inI_16] at c8
    have n8 := c8
    replace c8 := Int32.not_le.mp c8
    have cl_q : q < c.2.2.1 := by
      have z := mt (nle_iff (a := c.2.2.1) (b := q) (by omega) (by omega)).mpr (fun z => Int32.lt_irrefl (Int32.lt_of_lt_of_le c8 z))
      omega
    refine A_aload_n 12 dX10_here_11 rfl rfl rfl ?_
    refine A_getfield 15 dX10_here_12 rfl f_X10_38 O28 rfl ?_
    refine A_aload_n 16 dX10_here_15 rfl rfl rfl ?_
    refine A_getfield 19 dX10_here_16 rfl f_X10_127 O28 rfl ?_
    try dsimp only
    refine A_iaload 20 dX10_here_19 rfl O28 rfl (by first | assumption | exact ix_nI (by omega) (by decide) | exact ix_lit _ rfl (by omega) (by decide) | exact ix_lit _ rfl (by decide) (by decide)) ?_
    try dsimp only
    refine A_goto 24 dX10_here_20 (by decide) ?_
    refine A_iret dX10_here_24 rfl ⟨_, rfl, (by first | with_reducible rfl | (simp only [c8, n8, cl_q, if_true, if_false, ite_true, ite_false, and_true, true_and, and_false, false_and, and_self, or_true, true_or, or_false, false_or, or_self, not_true_eq_false, not_false_eq_true, decide_true, decide_false, Bool.and_true, Bool.true_and, Bool.and_false, Bool.false_and, Bool.and_self, Bool.or_true, Bool.true_or, Bool.or_false, Bool.false_or, Bool.not_true, Bool.not_false, cond_true, cond_false, bI_t, bI_f, Bool.false_eq_true, Bool.true_eq_false, dayC_1, dayC_21, dayC_221, dayC_222, hrV]; done) | (simp only [*]; done) | (simp [bI, *, hrV]; done) | with_reducible_and_instances rfl), rfl⟩
set_option maxHeartbeats 4000000 in
set_option maxRecDepth 100000 in
theorem S_X10_readDigits (X : En) (l : Launch) {h : Hp} {x : PW} {c : RC} {rd : RD} {q : Nat} {b : Bool} {s : Nat} {pl lo tl : FI} {ry : RY} {rs : RS} (O28 : h 28 = some (rB x (-1) c (rd, (q, bI b, s, pl, lo, tl), ry, rs))) (hn : c.2.2.1 ≤ 96) (hq : q ≤ c.2.2.1) {k : Nat} (hk : k < 5) : Ct X l mX10_readDigits [aR 28 0, aI (nI k)] h (QI (PI1 ((foldN (fun _ s => rdS c.2.1 c.2.2.1 s) (q, b, 0) k).2.2) h (28) (rB x (-1) c (rd, ((foldN (fun _ s => rdS c.2.1 c.2.2.1 s) (q, b, 0) k).1, bI (foldN (fun _ s => rdS c.2.1 c.2.2.1 s) (q, b, 0) k).2.1, s, pl, lo, tl), ry, rs)))) := by
  have hf : ∀ i, i ≠ 28 → h i = h i := fun _ _ => rfl
  refine Ct.intro [some (aR 28 0), some (aI (nI k)), none, none] (by decide +kernel) rfl (Nat.le_of_ble_eq_true rfl) ?_
  refine A_iconst 1 (0) dX10_readDigits_0 rfl (by decide) ?_
  refine A_istore_n 2 dX10_readDigits_1 rfl rfl (by decide) (by first | exact (ast_s (ast_1 rfl)) | exact (ast_s ast_k)) ?_
  refine A_iconst 3 (0) dX10_readDigits_2 rfl (by decide) ?_
  refine A_istore_n 4 dX10_readDigits_3 rfl rfl (by decide) (by first | exact (ast_s (ast_s (ast_1 rfl))) | exact (ast_s (ast_s ast_k))) ?_
  have L4 : ∀ (nq i : Nat) (q2 : Nat) (b2 : Bool) (w : Int32) (g4 : Hp) , (nq + i = k) → (foldN (fun _ s => rdS c.2.1 c.2.2.1 s) ((q, b, 0)) i = (q2, b2, w)) → (q2 ≤ c.2.2.1) → (g4 28 = some (rB x (-1) c (rd, (q2, bI b2, s, pl, lo, tl), ry, rs))) → (∀ i, i ≠ 28 → g4 i = h i) → Av X l mX10_readDigits 4 [some (aR 28 0), some (aI (nI (k))), some (aI (w)), some (aI (nI (i)))] [] g4 (QI (PI1 ((foldN (fun _ s => rdS c.2.1 c.2.2.1 s) (q, b, 0) k).2.2) h (28) (rB x (-1) c (rd, ((foldN (fun _ s => rdS c.2.1 c.2.2.1 s) (q, b, 0) k).1, bI (foldN (fun _ s => rdS c.2.1 c.2.2.1 s) (q, b, 0) k).2.1, s, pl, lo, tl), ry, rs)))) := by
    intro nq
    induction nq using Nat.strongRecOn with
    | _ nq ih =>
    intro i q2 b2 w g4 en ee hy O28 hf
    refine A_iload_n 5 dX10_readDigits_4 rfl rfl rfl ?_
    refine A_iload_n 6 dX10_readDigits_5 rfl rfl rfl ?_
    refine A_icmp_ge 98 9 dX10_readDigits_6 (by decide) rfl (fun c6 => ?_) (fun c6 => ?_)
    · skip
      obtain rfl := (up_ge_T (N := k) c6 rfl (by omega) (by omega)).symm
      refine A_iload_n 99 dX10_readDigits_98 rfl rfl rfl ?_
      refine A_iret dX10_readDigits_99 rfl ⟨_, rfl, (by rw [ee]), (by rw [ee]; exact O28), hf⟩
    · skip
      have hi := up_ge_F (N := k) c6 rfl (by omega) (by omega)
      obtain ⟨n0, rfl⟩ : ∃ q, nq = q + 1 := ⟨nq - 1, by omega⟩
      refine A_aload_n 10 dX10_readDigits_9 rfl rfl rfl ?_
      refine A_joinI 39 (fun vj => vj = bI (b2 || !dgB c.2.1 c.2.2.1 q2)) (fun j39 => ?_) (fun v39 e39 => ?_)
      · skip
        refine A_aload_n 11 dX10_readDigits_10 rfl rfl rfl ?_
        refine A_getfield 14 dX10_readDigits_11 rfl f_X10_130 O28 rfl ?_
        try dsimp only
        refine A_if_ne 34 17 dX10_readDigits_14 (by decide) rfl (fun c14 => ?_) (fun c14 => ?_)
        · skip
          try simp only [bI_0, bI_n0, Classical.not_not, Bool.not_eq_false, Bool.true_and, Bool.and_true, decide_eq_true_eq, decide_eq_false_iff_not, dayC_1, dayC_21, dayC_221, dayC_222, inI_48] at c14
          refine A_iconst 35 (1) dX10_readDigits_34 rfl (by decide) ?_
          refine A_goto 39 dX10_readDigits_35 (by decide) ?_
          exact j39 _ (by first | (simp only [c14, if_true, if_false, ite_true, ite_false, and_true, true_and, and_false, false_and, and_self, or_true, true_or, or_false, false_or, or_self, not_true_eq_false, not_false_eq_true, decide_true, decide_false, Bool.and_true, Bool.true_and, Bool.and_false, Bool.false_and, Bool.and_self, Bool.or_true, Bool.true_or, Bool.or_false, Bool.false_or, Bool.not_true, Bool.not_false, cond_true, cond_false, bI_t, bI_f, Bool.false_eq_true, Bool.true_eq_false, dayC_1, dayC_21, dayC_221, dayC_222, dgB, bI]; done) | (simp [dgB, *]; done))
        · skip
          try simp only [bI_0, bI_n0, Classical.not_not, Bool.not_eq_false, Bool.true_and, Bool.and_true, decide_eq_true_eq, decide_eq_false_iff_not, dayC_1, dayC_21, dayC_221, dayC_222, inI_48] at c14
          refine A_aload_n 18 dX10_readDigits_17 rfl rfl rfl ?_
          refine A_callVI 21 (S_X10_here X l (by first | assumption | decide | omega | exact Ne.symm (by assumption)) (by first | assumption | decide | omega | exact Ne.symm (by assumption)) (by first | assumption | decide | omega | exact Ne.symm (by assumption))) dX10_readDigits_18 rfl kX10_here lk_X10_134 rfl O28 (by decide) rfl (Nat.le_of_ble_eq_true rfl) (fun v_1 h_1 qh_1 => ?_)
          obtain ⟨rfl, rfl⟩ := qh_1
          refine A_i2l 22 dX10_readDigits_21 rfl ?_
          refine A_ldc2_w 25 _ dX10_readDigits_22 rfl cn_X10_138 ?_
          refine A_ldc2_w 28 _ dX10_readDigits_25 rfl cn_X10_140 ?_
          refine A_callSI 31 (S_X10_in X l) dX10_readDigits_28 rfl kX10_in lk_X10_84 rfl (by decide) rfl (Nat.le_of_ble_eq_true rfl) (fun v_2 h_2 qh_2 => ?_)
          obtain ⟨rfl, rfl⟩ := qh_2
          refine A_if_ne 38 34 dX10_readDigits_31 (by decide) rfl (fun c31 => ?_) (fun c31 => ?_)
          · skip
            try simp only [bI_0, bI_n0, Classical.not_not, Bool.not_eq_false, Bool.true_and, Bool.and_true, decide_eq_true_eq, decide_eq_false_iff_not, dayC_1, dayC_21, dayC_221, dayC_222, inI_48] at c31
            refine A_iconst 39 (0) dX10_readDigits_38 rfl (by decide) ?_
            exact j39 _ (by first | (simp only [c14, c31, if_true, if_false, ite_true, ite_false, and_true, true_and, and_false, false_and, and_self, or_true, true_or, or_false, false_or, or_self, not_true_eq_false, not_false_eq_true, decide_true, decide_false, Bool.and_true, Bool.true_and, Bool.and_false, Bool.false_and, Bool.and_self, Bool.or_true, Bool.true_or, Bool.or_false, Bool.false_or, Bool.not_true, Bool.not_false, cond_true, cond_false, bI_t, bI_f, Bool.false_eq_true, Bool.true_eq_false, dayC_1, dayC_21, dayC_221, dayC_222, dgB, bI]; done) | (simp only [eq_true c14, c31, if_true, if_false, ite_true, ite_false, and_true, true_and, and_false, false_and, and_self, or_true, true_or, or_false, false_or, or_self, not_true_eq_false, not_false_eq_true, decide_true, decide_false, Bool.and_true, Bool.true_and, Bool.and_false, Bool.false_and, Bool.and_self, Bool.or_true, Bool.true_or, Bool.or_false, Bool.false_or, Bool.not_true, Bool.not_false, cond_true, cond_false, bI_t, bI_f, Bool.false_eq_true, Bool.true_eq_false, dayC_1, dayC_21, dayC_221, dayC_222, dgB, bI]; done) | (simp [dgB, *]; done))
          · skip
            try simp only [bI_0, bI_n0, Classical.not_not, Bool.not_eq_false, Bool.true_and, Bool.and_true, decide_eq_true_eq, decide_eq_false_iff_not, dayC_1, dayC_21, dayC_221, dayC_222, inI_48] at c31
            refine A_iconst 35 (1) dX10_readDigits_34 rfl (by decide) ?_
            refine A_goto 39 dX10_readDigits_35 (by decide) ?_
            exact j39 _ (by first | (simp only [c14, c31, if_true, if_false, ite_true, ite_false, and_true, true_and, and_false, false_and, and_self, or_true, true_or, or_false, false_or, or_self, not_true_eq_false, not_false_eq_true, decide_true, decide_false, Bool.and_true, Bool.true_and, Bool.and_false, Bool.false_and, Bool.and_self, Bool.or_true, Bool.true_or, Bool.or_false, Bool.false_or, Bool.not_true, Bool.not_false, cond_true, cond_false, bI_t, bI_f, Bool.false_eq_true, Bool.true_eq_false, dayC_1, dayC_21, dayC_221, dayC_222, dgB, bI]; done) | (simp only [eq_true c14, c31, if_true, if_false, ite_true, ite_false, and_true, true_and, and_false, false_and, and_self, or_true, true_or, or_false, false_or, or_self, not_true_eq_false, not_false_eq_true, decide_true, decide_false, Bool.and_true, Bool.true_and, Bool.and_false, Bool.false_and, Bool.and_self, Bool.or_true, Bool.true_or, Bool.or_false, Bool.false_or, Bool.not_true, Bool.not_false, cond_true, cond_false, bI_t, bI_f, Bool.false_eq_true, Bool.true_eq_false, dayC_1, dayC_21, dayC_221, dayC_222, dgB, bI]; done) | (simp [dgB, *]; done))
      subst e39
      refine P_X10_17 42 dX10_readDigits_39 rfl fw_X10_130 O28 (by first | with_reducible exact bI01 _ | with_reducible exact Or.inl rfl | with_reducible exact Or.inr rfl | assumption) (fun h_3 nh_3 eh_3 => ?_)
      replace O28 := nh_3
      replace hf : ∀ i, i ≠ 28 → h_3 i = h i := fun i g0 => (eh_3 i g0).trans (hf i g0)
      try dsimp only at O28
      refine A_joinI 70 (fun vj => vj = if (b2 || !dgB c.2.1 c.2.2.1 q2) = true then 0 else 10 * w + c.2.1 q2 - 48) (fun j70 => ?_) (fun v70 e70 => ?_)
      · skip
        refine A_aload_n 43 dX10_readDigits_42 rfl rfl rfl ?_
        refine A_getfield 46 dX10_readDigits_43 rfl f_X10_130 O28 rfl ?_
        try dsimp only
        refine A_if_eq 53 49 dX10_readDigits_46 (by decide) rfl (fun c46 => ?_) (fun c46 => ?_)
        · skip
          try simp only [bI_0, bI_n0, Classical.not_not, Bool.not_eq_false, Bool.true_and, Bool.and_true, decide_eq_true_eq, decide_eq_false_iff_not, dayC_1, dayC_21, dayC_221, dayC_222, inI_48] at c46
          have hq5 := dgB_lt (ndg c46).2
          refine A_bipush 55 (10) dX10_readDigits_53 rfl (by decide) ?_
          refine A_iload_n 56 dX10_readDigits_55 rfl rfl rfl ?_
          refine A_imul 57 dX10_readDigits_56 rfl ?_
          refine A_aload_n 58 dX10_readDigits_57 rfl rfl rfl ?_
          refine A_getfield 61 dX10_readDigits_58 rfl f_X10_38 O28 rfl ?_
          refine A_aload_n 62 dX10_readDigits_61 rfl rfl rfl ?_
          refine A_getfield 65 dX10_readDigits_62 rfl f_X10_127 O28 rfl ?_
          try dsimp only
          refine A_iaload 66 dX10_readDigits_65 rfl O28 rfl (by first | assumption | exact ix_nI (by omega) (by decide) | exact ix_lit _ rfl (by omega) (by decide) | exact ix_lit _ rfl (by decide) (by decide)) ?_
          try dsimp only
          refine A_iadd 67 dX10_readDigits_66 rfl ?_
          refine A_bipush 69 (48) dX10_readDigits_67 rfl (by decide) ?_
          refine A_isub 70 dX10_readDigits_69 rfl ?_
          exact j70 _ (by first | rw [if_pos c46] | rw [if_neg (by rw [c46]; decide)])
        · skip
          try simp only [bI_0, bI_n0, Classical.not_not, Bool.not_eq_false, Bool.true_and, Bool.and_true, decide_eq_true_eq, decide_eq_false_iff_not, dayC_1, dayC_21, dayC_221, dayC_222, inI_48] at c46
          refine A_iconst 50 (0) dX10_readDigits_49 rfl (by decide) ?_
          refine A_goto 70 dX10_readDigits_50 (by decide) ?_
          exact j70 _ (by first | rw [if_pos c46] | rw [if_neg (by rw [c46]; decide)])
      subst e70
      refine A_istore_n 71 dX10_readDigits_70 rfl rfl (by decide) (by first | exact (ast_s (ast_1 rfl)) | exact (ast_s ast_k)) ?_
      refine A_aload_n 72 dX10_readDigits_71 rfl rfl rfl ?_
      refine A_dup 73 dX10_readDigits_72 rfl rfl ?_
      refine A_getfield 76 dX10_readDigits_73 rfl f_X10_127 O28 rfl ?_
      try dsimp only
      refine A_joinI 88 (fun vj => vj = if (b2 || !dgB c.2.1 c.2.2.1 q2) = true then 0 else 1) (fun j88 => ?_) (fun v88 e88 => ?_)
      · skip
        refine A_aload_n 77 dX10_readDigits_76 rfl rfl rfl ?_
        refine A_getfield 80 dX10_readDigits_77 rfl f_X10_130 O28 rfl ?_
        try dsimp only
        refine A_if_eq 87 83 dX10_readDigits_80 (by decide) rfl (fun c80 => ?_) (fun c80 => ?_)
        · skip
          try simp only [bI_0, bI_n0, Classical.not_not, Bool.not_eq_false, Bool.true_and, Bool.and_true, decide_eq_true_eq, decide_eq_false_iff_not, dayC_1, dayC_21, dayC_221, dayC_222, inI_48] at c80
          refine A_iconst 88 (1) dX10_readDigits_87 rfl (by decide) ?_
          exact j88 _ (by first | rw [if_pos c80] | rw [if_neg (by rw [c80]; decide)])
        · skip
          try simp only [bI_0, bI_n0, Classical.not_not, Bool.not_eq_false, Bool.true_and, Bool.and_true, decide_eq_true_eq, decide_eq_false_iff_not, dayC_1, dayC_21, dayC_221, dayC_222, inI_48] at c80
          refine A_iconst 84 (0) dX10_readDigits_83 rfl (by decide) ?_
          refine A_goto 88 dX10_readDigits_84 (by decide) ?_
          exact j88 _ (by first | rw [if_pos c80] | rw [if_neg (by rw [c80]; decide)])
      subst e88
      refine A_iadd 89 dX10_readDigits_88 rfl ?_
      rw [st_n]
      refine P_X10_16 92 dX10_readDigits_89 rfl fw_X10_127 O28 (fun h_4 nh_4 eh_4 => ?_)
      replace O28 := nh_4
      replace hf : ∀ i, i ≠ 28 → h_4 i = h i := fun i g0 => (eh_4 i g0).trans (hf i g0)
      try dsimp only at O28
      first | refine A_iincN 95 dX10_readDigits_92 rfl rfl (by decide) (by first | exact (ast_s (ast_s (ast_1 rfl))) | exact (ast_s (ast_s ast_k))) ?_ | refine A_iinc 95 (1) dX10_readDigits_92 rfl rfl (by decide) (by decide) (by first | exact (ast_s (ast_s (ast_1 rfl))) | exact (ast_s (ast_s ast_k))) ?_
      refine A_goto 4 dX10_readDigits_95 (by decide) ?_
      exact ih n0 (Nat.lt_succ_self n0) (i + 1) _ _ _ h_4  (by omega) ((foldN_s (fun _ s => rdS c.2.1 c.2.2.1 s) ((q, b, 0)) i).trans ((congrArg ((fun _ s => rdS c.2.1 c.2.2.1 s) i) ee).trans (by rfl))) (rdS_le (s := (q2, b2, w)) hy) O28 hf
  exact L4 (k) (0) (_) (_) (_) h  (by omega) (rfl) (hq) O28 hf
set_option maxHeartbeats 4000000 in
set_option maxRecDepth 100000 in
theorem S_X10_isLetter (X : En) (l : Launch) {h : Hp} {v : Int32} : Ct X l mX10_isLetter [aI v] h (QI (PI0 (bI (decide (¬ DB v < 0))) h)) := by
  refine Ct.intro [some (aI v)] (by decide +kernel) rfl (Nat.le_of_ble_eq_true rfl) ?_
  refine A_iload_n 1 dX10_isLetter_0 rfl rfl rfl ?_
  refine A_bipush 3 (108) dX10_isLetter_1 rfl (by decide) ?_
  refine A_icmp_eq 36 6 dX10_isLetter_3 (by decide) rfl (fun c3 => ?_) (fun c3 => ?_)
  · skip
    try simp only [bI_0, bI_n0, Classical.not_not, Bool.not_eq_false, Bool.true_and, Bool.and_true, decide_eq_true_eq, decide_eq_false_iff_not, dayC_1, dayC_21, dayC_221, dayC_222, inI_1, inI_2, inI_3, inI_5, inI_11, inI_16] at c3
    refine A_iconst 37 (1) dX10_isLetter_36 rfl (by decide) ?_
    refine A_goto 41 dX10_isLetter_37 (by decide) ?_
    refine A_zret dX10_isLetter_41 rfl (by first | with_reducible exact bI01 _ | with_reducible exact Or.inl rfl | with_reducible exact Or.inr rfl | assumption) ⟨_, rfl, (by first | (subst c3; rfl) | (subst c9; rfl) | (subst c15; rfl) | (subst c21; rfl) | (subst c27; rfl) | (subst c33; rfl) | (unfold DB; rw [if_neg c21, if_neg c33, if_neg c3, if_neg c9, if_neg c15, if_neg c27]; rfl)), rfl⟩
  · skip
    try simp only [bI_0, bI_n0, Classical.not_not, Bool.not_eq_false, Bool.true_and, Bool.and_true, decide_eq_true_eq, decide_eq_false_iff_not, dayC_1, dayC_21, dayC_221, dayC_222, inI_1, inI_2, inI_3, inI_5, inI_11, inI_16] at c3
    refine A_iload_n 7 dX10_isLetter_6 rfl rfl rfl ?_
    refine A_bipush 9 (112) dX10_isLetter_7 rfl (by decide) ?_
    refine A_icmp_eq 36 12 dX10_isLetter_9 (by decide) rfl (fun c9 => ?_) (fun c9 => ?_)
    · skip
      try simp only [bI_0, bI_n0, Classical.not_not, Bool.not_eq_false, Bool.true_and, Bool.and_true, decide_eq_true_eq, decide_eq_false_iff_not, dayC_1, dayC_21, dayC_221, dayC_222, inI_1, inI_2, inI_3, inI_5, inI_11, inI_16] at c9
      refine A_iconst 37 (1) dX10_isLetter_36 rfl (by decide) ?_
      refine A_goto 41 dX10_isLetter_37 (by decide) ?_
      refine A_zret dX10_isLetter_41 rfl (by first | with_reducible exact bI01 _ | with_reducible exact Or.inl rfl | with_reducible exact Or.inr rfl | assumption) ⟨_, rfl, (by first | (subst c3; rfl) | (subst c9; rfl) | (subst c15; rfl) | (subst c21; rfl) | (subst c27; rfl) | (subst c33; rfl) | (unfold DB; rw [if_neg c21, if_neg c33, if_neg c3, if_neg c9, if_neg c15, if_neg c27]; rfl)), rfl⟩
    · skip
      try simp only [bI_0, bI_n0, Classical.not_not, Bool.not_eq_false, Bool.true_and, Bool.and_true, decide_eq_true_eq, decide_eq_false_iff_not, dayC_1, dayC_21, dayC_221, dayC_222, inI_1, inI_2, inI_3, inI_5, inI_11, inI_16] at c9
      refine A_iload_n 13 dX10_isLetter_12 rfl rfl rfl ?_
      refine A_bipush 15 (116) dX10_isLetter_13 rfl (by decide) ?_
      refine A_icmp_eq 36 18 dX10_isLetter_15 (by decide) rfl (fun c15 => ?_) (fun c15 => ?_)
      · skip
        try simp only [bI_0, bI_n0, Classical.not_not, Bool.not_eq_false, Bool.true_and, Bool.and_true, decide_eq_true_eq, decide_eq_false_iff_not, dayC_1, dayC_21, dayC_221, dayC_222, inI_1, inI_2, inI_3, inI_5, inI_11, inI_16] at c15
        refine A_iconst 37 (1) dX10_isLetter_36 rfl (by decide) ?_
        refine A_goto 41 dX10_isLetter_37 (by decide) ?_
        refine A_zret dX10_isLetter_41 rfl (by first | with_reducible exact bI01 _ | with_reducible exact Or.inl rfl | with_reducible exact Or.inr rfl | assumption) ⟨_, rfl, (by first | (subst c3; rfl) | (subst c9; rfl) | (subst c15; rfl) | (subst c21; rfl) | (subst c27; rfl) | (subst c33; rfl) | (unfold DB; rw [if_neg c21, if_neg c33, if_neg c3, if_neg c9, if_neg c15, if_neg c27]; rfl)), rfl⟩
      · skip
        try simp only [bI_0, bI_n0, Classical.not_not, Bool.not_eq_false, Bool.true_and, Bool.and_true, decide_eq_true_eq, decide_eq_false_iff_not, dayC_1, dayC_21, dayC_221, dayC_222, inI_1, inI_2, inI_3, inI_5, inI_11, inI_16] at c15
        refine A_iload_n 19 dX10_isLetter_18 rfl rfl rfl ?_
        refine A_bipush 21 (98) dX10_isLetter_19 rfl (by decide) ?_
        refine A_icmp_eq 36 24 dX10_isLetter_21 (by decide) rfl (fun c21 => ?_) (fun c21 => ?_)
        · skip
          try simp only [bI_0, bI_n0, Classical.not_not, Bool.not_eq_false, Bool.true_and, Bool.and_true, decide_eq_true_eq, decide_eq_false_iff_not, dayC_1, dayC_21, dayC_221, dayC_222, inI_1, inI_2, inI_3, inI_5, inI_11, inI_16] at c21
          refine A_iconst 37 (1) dX10_isLetter_36 rfl (by decide) ?_
          refine A_goto 41 dX10_isLetter_37 (by decide) ?_
          refine A_zret dX10_isLetter_41 rfl (by first | with_reducible exact bI01 _ | with_reducible exact Or.inl rfl | with_reducible exact Or.inr rfl | assumption) ⟨_, rfl, (by first | (subst c3; rfl) | (subst c9; rfl) | (subst c15; rfl) | (subst c21; rfl) | (subst c27; rfl) | (subst c33; rfl) | (unfold DB; rw [if_neg c21, if_neg c33, if_neg c3, if_neg c9, if_neg c15, if_neg c27]; rfl)), rfl⟩
        · skip
          try simp only [bI_0, bI_n0, Classical.not_not, Bool.not_eq_false, Bool.true_and, Bool.and_true, decide_eq_true_eq, decide_eq_false_iff_not, dayC_1, dayC_21, dayC_221, dayC_222, inI_1, inI_2, inI_3, inI_5, inI_11, inI_16] at c21
          refine A_iload_n 25 dX10_isLetter_24 rfl rfl rfl ?_
          refine A_bipush 27 (120) dX10_isLetter_25 rfl (by decide) ?_
          refine A_icmp_eq 36 30 dX10_isLetter_27 (by decide) rfl (fun c27 => ?_) (fun c27 => ?_)
          · skip
            try simp only [bI_0, bI_n0, Classical.not_not, Bool.not_eq_false, Bool.true_and, Bool.and_true, decide_eq_true_eq, decide_eq_false_iff_not, dayC_1, dayC_21, dayC_221, dayC_222, inI_1, inI_2, inI_3, inI_5, inI_11, inI_16] at c27
            refine A_iconst 37 (1) dX10_isLetter_36 rfl (by decide) ?_
            refine A_goto 41 dX10_isLetter_37 (by decide) ?_
            refine A_zret dX10_isLetter_41 rfl (by first | with_reducible exact bI01 _ | with_reducible exact Or.inl rfl | with_reducible exact Or.inr rfl | assumption) ⟨_, rfl, (by first | (subst c3; rfl) | (subst c9; rfl) | (subst c15; rfl) | (subst c21; rfl) | (subst c27; rfl) | (subst c33; rfl) | (unfold DB; rw [if_neg c21, if_neg c33, if_neg c3, if_neg c9, if_neg c15, if_neg c27]; rfl)), rfl⟩
          · skip
            try simp only [bI_0, bI_n0, Classical.not_not, Bool.not_eq_false, Bool.true_and, Bool.and_true, decide_eq_true_eq, decide_eq_false_iff_not, dayC_1, dayC_21, dayC_221, dayC_222, inI_1, inI_2, inI_3, inI_5, inI_11, inI_16] at c27
            refine A_iload_n 31 dX10_isLetter_30 rfl rfl rfl ?_
            refine A_bipush 33 (100) dX10_isLetter_31 rfl (by decide) ?_
            refine A_icmp_ne 40 36 dX10_isLetter_33 (by decide) rfl (fun c33 => ?_) (fun c33 => ?_)
            · skip
              try simp only [bI_0, bI_n0, Classical.not_not, Bool.not_eq_false, Bool.true_and, Bool.and_true, decide_eq_true_eq, decide_eq_false_iff_not, dayC_1, dayC_21, dayC_221, dayC_222, inI_1, inI_2, inI_3, inI_5, inI_11, inI_16] at c33
              refine A_iconst 41 (0) dX10_isLetter_40 rfl (by decide) ?_
              refine A_zret dX10_isLetter_41 rfl (by first | with_reducible exact bI01 _ | with_reducible exact Or.inl rfl | with_reducible exact Or.inr rfl | assumption) ⟨_, rfl, (by first | (subst c3; rfl) | (subst c9; rfl) | (subst c15; rfl) | (subst c21; rfl) | (subst c27; rfl) | (subst c33; rfl) | (unfold DB; rw [if_neg c21, if_neg c33, if_neg c3, if_neg c9, if_neg c15, if_neg c27]; rfl)), rfl⟩
            · skip
              try simp only [bI_0, bI_n0, Classical.not_not, Bool.not_eq_false, Bool.true_and, Bool.and_true, decide_eq_true_eq, decide_eq_false_iff_not, dayC_1, dayC_21, dayC_221, dayC_222, inI_1, inI_2, inI_3, inI_5, inI_11, inI_16] at c33
              refine A_iconst 37 (1) dX10_isLetter_36 rfl (by decide) ?_
              refine A_goto 41 dX10_isLetter_37 (by decide) ?_
              refine A_zret dX10_isLetter_41 rfl (by first | with_reducible exact bI01 _ | with_reducible exact Or.inl rfl | with_reducible exact Or.inr rfl | assumption) ⟨_, rfl, (by first | (subst c3; rfl) | (subst c9; rfl) | (subst c15; rfl) | (subst c21; rfl) | (subst c27; rfl) | (subst c33; rfl) | (unfold DB; rw [if_neg c21, if_neg c33, if_neg c3, if_neg c9, if_neg c15, if_neg c27]; rfl)), rfl⟩
set_option maxHeartbeats 4000000 in
set_option maxRecDepth 100000 in
theorem S_X10_readNumbers (X : En) (l : Launch) {h : Hp} {x : PW} {c : RC} {rd : RD} {q : Nat} {b : Bool} {s : Nat} {pl lo tl : FI} {ry : RY} {rs : RS} (O28 : h 28 = some (rB x (-1) c (rd, (q, bI b, s, pl, lo, tl), ry, rs))) (hn : c.2.2.1 ≤ 96) (hq : q ≤ c.2.2.1) {v : Int32} {bs : Nat} (hb : bs + 4 ≤ 196) : Ct X l mX10_readNumbers [aR 28 0, aI v, aI (nI bs)] h (QV (PV1 h (28) (rB x (-1) c (rd, ((rnA c.2.1 c.2.2.1 v bs (q, b, tl)).1, bI (rnA c.2.1 c.2.2.1 v bs (q, b, tl)).2.1, s, pl, lo, (rnA c.2.1 c.2.2.1 v bs (q, b, tl)).2.2), ry, rs)))) := by
  have hf : ∀ i, i ≠ 28 → h i = h i := fun _ _ => rfl
  refine Ct.intro [some (aR 28 0), some (aI v), some (aI (nI bs)), none, none] (by decide +kernel) rfl (Nat.le_of_ble_eq_true rfl) ?_
  refine A_iload_n 1 dX10_readNumbers_0 rfl rfl rfl ?_
  refine A_bipush 3 (108) dX10_readNumbers_1 rfl (by decide) ?_
  refine A_icmp_eq 18 6 dX10_readNumbers_3 (by decide) rfl (fun c3 => ?_) (fun c3 => ?_)
  · skip
    try simp only [bI_0, bI_n0, Classical.not_not, Bool.not_eq_false, Bool.true_and, Bool.and_true, decide_eq_true_eq, decide_eq_false_iff_not, dayC_1, dayC_21, dayC_221, dayC_222, inI_1, inI_2, inI_3, inI_5, inI_11, inI_16] at c3
    have hv3 : v = 108 ∨ v = 116 ∨ v = 98 := Or.inl c3
    refine A_joinI 29 (fun vj => vj = nI (rnK v)) (fun j29 => ?_) (fun v29 e29 => ?_)
    · skip
      refine A_iload_n 19 dX10_readNumbers_18 rfl rfl rfl ?_
      refine A_bipush 21 (108) dX10_readNumbers_19 rfl (by decide) ?_
      refine A_icmp_ne 28 24 dX10_readNumbers_21 (by decide) rfl (fun c21 => ?_) (fun c21 => ?_)
      · skip
        try simp only [bI_0, bI_n0, Classical.not_not, Bool.not_eq_false, Bool.true_and, Bool.and_true, decide_eq_true_eq, decide_eq_false_iff_not, dayC_1, dayC_21, dayC_221, dayC_222, inI_1, inI_2, inI_3, inI_5, inI_11, inI_16] at c21
        refine A_iconst 29 (2) dX10_readNumbers_28 rfl (by decide) ?_
        exact j29 _ (by unfold rnK; first | (rw [if_pos c21]; rfl) | (rw [if_neg c21]; rfl))
      · skip
        try simp only [bI_0, bI_n0, Classical.not_not, Bool.not_eq_false, Bool.true_and, Bool.and_true, decide_eq_true_eq, decide_eq_false_iff_not, dayC_1, dayC_21, dayC_221, dayC_222, inI_1, inI_2, inI_3, inI_5, inI_11, inI_16] at c21
        refine A_iconst 25 (4) dX10_readNumbers_24 rfl (by decide) ?_
        refine A_goto 29 dX10_readNumbers_25 (by decide) ?_
        exact j29 _ (by unfold rnK; first | (rw [if_pos c21]; rfl) | (rw [if_neg c21]; rfl))
    subst e29
    have hK := rnK_le v
    refine A_istore_n 30 dX10_readNumbers_29 rfl rfl (by decide) (by first | exact (ast_s (ast_s (ast_1 rfl))) | exact (ast_s (ast_s ast_k))) ?_
    refine A_iconst 31 (0) dX10_readNumbers_30 rfl (by decide) ?_
    refine A_istore 33 dX10_readNumbers_31 rfl (by decide) (by first | exact (ast_s (ast_s (ast_s (ast_1 rfl)))) | exact (ast_s (ast_s (ast_s ast_k)))) ?_
    have L33 : ∀ (nq j : Nat) (q2 : Nat) (b2 : Bool) (t2 : FI) (g33 : Hp) , (nq + j = rnK v) → (foldN (rnF c.2.1 c.2.2.1 bs) ((q, b, tl)) j = (q2, b2, t2)) → (q2 ≤ c.2.2.1) → (g33 28 = some (rB x (-1) c (rd, (q2, bI b2, s, pl, lo, t2), ry, rs))) → (∀ i, i ≠ 28 → g33 i = h i) → Av X l mX10_readNumbers 33 [some (aR 28 0), some (aI (v)), some (aI (nI (bs))), some (aI (nI ((rnK v)))), some (aI (nI (j)))] [] g33 (QV (PV1 h (28) (rB x (-1) c (rd, ((rnA c.2.1 c.2.2.1 v bs (q, b, tl)).1, bI (rnA c.2.1 c.2.2.1 v bs (q, b, tl)).2.1, s, pl, lo, (rnA c.2.1 c.2.2.1 v bs (q, b, tl)).2.2), ry, rs)))) := by
      intro nq
      induction nq using Nat.strongRecOn with
      | _ nq ih =>
      intro j q2 b2 t2 g33 en ee hy O28 hf
      refine A_iload 35 dX10_readNumbers_33 rfl rfl ?_
      refine A_iload_n 36 dX10_readNumbers_35 rfl rfl rfl ?_
      refine A_icmp_ge 59 39 dX10_readNumbers_36 (by decide) rfl (fun c36 => ?_) (fun c36 => ?_)
      · skip
        obtain rfl := (up_ge_T (N := rnK v) c36 rfl (by omega) (by omega)).symm
        have es : rnA c.2.1 c.2.2.1 v bs (q, b, tl) = (q2, b2, t2) := (if_pos hv3).trans ee
        refine A_goto 79 dX10_readNumbers_59 (by decide) ?_
        refine A_vret dX10_readNumbers_79 rfl ⟨rfl, (by rw [es]; exact O28), hf⟩
      · skip
        have hi := up_ge_F (N := rnK v) c36 rfl (by omega) (by omega)
        obtain ⟨n0, rfl⟩ : ∃ q, nq = q + 1 := ⟨nq - 1, by omega⟩
        refine A_aload_n 40 dX10_readNumbers_39 rfl rfl rfl ?_
        refine A_getfield 43 dX10_readNumbers_40 rfl f_X10_47 O28 rfl ?_
        refine A_iload_n 44 dX10_readNumbers_43 rfl rfl rfl ?_
        refine A_iload 46 dX10_readNumbers_44 rfl rfl ?_
        refine A_iadd 47 dX10_readNumbers_46 rfl ?_
        rw [nI_add]
        refine A_aload_n 48 dX10_readNumbers_47 rfl rfl rfl ?_
        refine A_iconst 49 (1) dX10_readNumbers_48 rfl (by decide) ?_
        refine A_callVI 52 (S_X10_readDigits X l O28 hn hy (k := 1) (by decide)) dX10_readNumbers_49 rfl kX10_readDigits lk_X10_142 rfl O28 (by decide) rfl (Nat.le_of_ble_eq_true rfl) (fun v_1 h_1 qh_1 => ?_)
        obtain ⟨rfl, n0h_1, eh_1⟩ := qh_1
        replace O28 := n0h_1
        replace hf : ∀ i, i ≠ 28 → h_1 i = h i := fun i g0 => (eh_1 i g0).trans (hf i g0)
        refine T_X10_11 53 dX10_readNumbers_52 rfl O28 (by first | assumption | exact ix_nI (by omega) (by decide) | exact ix_lit _ rfl (by omega) (by decide) | exact ix_lit _ rfl (by decide) (by decide)) (fun h_2 nh_2 eh_2 => ?_)
        replace O28 := nh_2
        replace hf : ∀ i, i ≠ 28 → h_2 i = h i := fun i g0 => (eh_2 i g0).trans (hf i g0)
        try dsimp only at O28
        first | refine A_iincN 56 dX10_readNumbers_53 rfl rfl (by decide) (by first | exact (ast_s (ast_s (ast_s (ast_1 rfl)))) | exact (ast_s (ast_s (ast_s ast_k)))) ?_ | refine A_iinc 56 (1) dX10_readNumbers_53 rfl rfl (by decide) (by decide) (by first | exact (ast_s (ast_s (ast_s (ast_1 rfl)))) | exact (ast_s (ast_s (ast_s ast_k)))) ?_
        refine A_goto 33 dX10_readNumbers_56 (by decide) ?_
        exact ih n0 (Nat.lt_succ_self n0) (j + 1) _ _ _ h_2  (by omega) ((foldN_s (rnF c.2.1 c.2.2.1 bs) ((q, b, tl)) j).trans ((congrArg ((rnF c.2.1 c.2.2.1 bs) j) ee).trans (by rfl))) (rdS_le (s := (q2, b2, 0)) hy) O28 hf
    exact L33 (rnK v) (0) (_) (_) (_) h  (by omega) (rfl) (hq) O28 hf
  · skip
    try simp only [bI_0, bI_n0, Classical.not_not, Bool.not_eq_false, Bool.true_and, Bool.and_true, decide_eq_true_eq, decide_eq_false_iff_not, dayC_1, dayC_21, dayC_221, dayC_222, inI_1, inI_2, inI_3, inI_5, inI_11, inI_16] at c3
    refine A_iload_n 7 dX10_readNumbers_6 rfl rfl rfl ?_
    refine A_bipush 9 (116) dX10_readNumbers_7 rfl (by decide) ?_
    refine A_icmp_eq 18 12 dX10_readNumbers_9 (by decide) rfl (fun c9 => ?_) (fun c9 => ?_)
    · skip
      try simp only [bI_0, bI_n0, Classical.not_not, Bool.not_eq_false, Bool.true_and, Bool.and_true, decide_eq_true_eq, decide_eq_false_iff_not, dayC_1, dayC_21, dayC_221, dayC_222, inI_1, inI_2, inI_3, inI_5, inI_11, inI_16] at c9
      have hv3 : v = 108 ∨ v = 116 ∨ v = 98 := Or.inr (Or.inl c9)
      refine A_joinI 29 (fun vj => vj = nI (rnK v)) (fun j29 => ?_) (fun v29 e29 => ?_)
      · skip
        refine A_iload_n 19 dX10_readNumbers_18 rfl rfl rfl ?_
        refine A_bipush 21 (108) dX10_readNumbers_19 rfl (by decide) ?_
        refine A_icmp_ne 28 24 dX10_readNumbers_21 (by decide) rfl (fun c21 => ?_) (fun c21 => ?_)
        · skip
          try simp only [bI_0, bI_n0, Classical.not_not, Bool.not_eq_false, Bool.true_and, Bool.and_true, decide_eq_true_eq, decide_eq_false_iff_not, dayC_1, dayC_21, dayC_221, dayC_222, inI_1, inI_2, inI_3, inI_5, inI_11, inI_16] at c21
          refine A_iconst 29 (2) dX10_readNumbers_28 rfl (by decide) ?_
          exact j29 _ (by unfold rnK; first | (rw [if_pos c21]; rfl) | (rw [if_neg c21]; rfl))
        · skip
          try simp only [bI_0, bI_n0, Classical.not_not, Bool.not_eq_false, Bool.true_and, Bool.and_true, decide_eq_true_eq, decide_eq_false_iff_not, dayC_1, dayC_21, dayC_221, dayC_222, inI_1, inI_2, inI_3, inI_5, inI_11, inI_16] at c21
          refine A_iconst 25 (4) dX10_readNumbers_24 rfl (by decide) ?_
          refine A_goto 29 dX10_readNumbers_25 (by decide) ?_
          exact j29 _ (by unfold rnK; first | (rw [if_pos c21]; rfl) | (rw [if_neg c21]; rfl))
      subst e29
      have hK := rnK_le v
      refine A_istore_n 30 dX10_readNumbers_29 rfl rfl (by decide) (by first | exact (ast_s (ast_s (ast_1 rfl))) | exact (ast_s (ast_s ast_k))) ?_
      refine A_iconst 31 (0) dX10_readNumbers_30 rfl (by decide) ?_
      refine A_istore 33 dX10_readNumbers_31 rfl (by decide) (by first | exact (ast_s (ast_s (ast_s (ast_1 rfl)))) | exact (ast_s (ast_s (ast_s ast_k)))) ?_
      have L33 : ∀ (nq j : Nat) (q2 : Nat) (b2 : Bool) (t2 : FI) (g33 : Hp) , (nq + j = rnK v) → (foldN (rnF c.2.1 c.2.2.1 bs) ((q, b, tl)) j = (q2, b2, t2)) → (q2 ≤ c.2.2.1) → (g33 28 = some (rB x (-1) c (rd, (q2, bI b2, s, pl, lo, t2), ry, rs))) → (∀ i, i ≠ 28 → g33 i = h i) → Av X l mX10_readNumbers 33 [some (aR 28 0), some (aI (v)), some (aI (nI (bs))), some (aI (nI ((rnK v)))), some (aI (nI (j)))] [] g33 (QV (PV1 h (28) (rB x (-1) c (rd, ((rnA c.2.1 c.2.2.1 v bs (q, b, tl)).1, bI (rnA c.2.1 c.2.2.1 v bs (q, b, tl)).2.1, s, pl, lo, (rnA c.2.1 c.2.2.1 v bs (q, b, tl)).2.2), ry, rs)))) := by
        intro nq
        induction nq using Nat.strongRecOn with
        | _ nq ih =>
        intro j q2 b2 t2 g33 en ee hy O28 hf
        refine A_iload 35 dX10_readNumbers_33 rfl rfl ?_
        refine A_iload_n 36 dX10_readNumbers_35 rfl rfl rfl ?_
        refine A_icmp_ge 59 39 dX10_readNumbers_36 (by decide) rfl (fun c36 => ?_) (fun c36 => ?_)
        · skip
          obtain rfl := (up_ge_T (N := rnK v) c36 rfl (by omega) (by omega)).symm
          have es : rnA c.2.1 c.2.2.1 v bs (q, b, tl) = (q2, b2, t2) := (if_pos hv3).trans ee
          refine A_goto 79 dX10_readNumbers_59 (by decide) ?_
          refine A_vret dX10_readNumbers_79 rfl ⟨rfl, (by rw [es]; exact O28), hf⟩
        · skip
          have hi := up_ge_F (N := rnK v) c36 rfl (by omega) (by omega)
          obtain ⟨n0, rfl⟩ : ∃ q, nq = q + 1 := ⟨nq - 1, by omega⟩
          refine A_aload_n 40 dX10_readNumbers_39 rfl rfl rfl ?_
          refine A_getfield 43 dX10_readNumbers_40 rfl f_X10_47 O28 rfl ?_
          refine A_iload_n 44 dX10_readNumbers_43 rfl rfl rfl ?_
          refine A_iload 46 dX10_readNumbers_44 rfl rfl ?_
          refine A_iadd 47 dX10_readNumbers_46 rfl ?_
          rw [nI_add]
          refine A_aload_n 48 dX10_readNumbers_47 rfl rfl rfl ?_
          refine A_iconst 49 (1) dX10_readNumbers_48 rfl (by decide) ?_
          refine A_callVI 52 (S_X10_readDigits X l O28 hn hy (k := 1) (by decide)) dX10_readNumbers_49 rfl kX10_readDigits lk_X10_142 rfl O28 (by decide) rfl (Nat.le_of_ble_eq_true rfl) (fun v_3 h_3 qh_3 => ?_)
          obtain ⟨rfl, n0h_3, eh_3⟩ := qh_3
          replace O28 := n0h_3
          replace hf : ∀ i, i ≠ 28 → h_3 i = h i := fun i g0 => (eh_3 i g0).trans (hf i g0)
          refine T_X10_11 53 dX10_readNumbers_52 rfl O28 (by first | assumption | exact ix_nI (by omega) (by decide) | exact ix_lit _ rfl (by omega) (by decide) | exact ix_lit _ rfl (by decide) (by decide)) (fun h_4 nh_4 eh_4 => ?_)
          replace O28 := nh_4
          replace hf : ∀ i, i ≠ 28 → h_4 i = h i := fun i g0 => (eh_4 i g0).trans (hf i g0)
          try dsimp only at O28
          first | refine A_iincN 56 dX10_readNumbers_53 rfl rfl (by decide) (by first | exact (ast_s (ast_s (ast_s (ast_1 rfl)))) | exact (ast_s (ast_s (ast_s ast_k)))) ?_ | refine A_iinc 56 (1) dX10_readNumbers_53 rfl rfl (by decide) (by decide) (by first | exact (ast_s (ast_s (ast_s (ast_1 rfl)))) | exact (ast_s (ast_s (ast_s ast_k)))) ?_
          refine A_goto 33 dX10_readNumbers_56 (by decide) ?_
          exact ih n0 (Nat.lt_succ_self n0) (j + 1) _ _ _ h_4  (by omega) ((foldN_s (rnF c.2.1 c.2.2.1 bs) ((q, b, tl)) j).trans ((congrArg ((rnF c.2.1 c.2.2.1 bs) j) ee).trans (by rfl))) (rdS_le (s := (q2, b2, 0)) hy) O28 hf
      exact L33 (rnK v) (0) (_) (_) (_) h  (by omega) (rfl) (hq) O28 hf
    · skip
      try simp only [bI_0, bI_n0, Classical.not_not, Bool.not_eq_false, Bool.true_and, Bool.and_true, decide_eq_true_eq, decide_eq_false_iff_not, dayC_1, dayC_21, dayC_221, dayC_222, inI_1, inI_2, inI_3, inI_5, inI_11, inI_16] at c9
      refine A_iload_n 13 dX10_readNumbers_12 rfl rfl rfl ?_
      refine A_bipush 15 (98) dX10_readNumbers_13 rfl (by decide) ?_
      refine A_icmp_ne 62 18 dX10_readNumbers_15 (by decide) rfl (fun c15 => ?_) (fun c15 => ?_)
      · skip
        try simp only [bI_0, bI_n0, Classical.not_not, Bool.not_eq_false, Bool.true_and, Bool.and_true, decide_eq_true_eq, decide_eq_false_iff_not, dayC_1, dayC_21, dayC_221, dayC_222, inI_1, inI_2, inI_3, inI_5, inI_11, inI_16] at c15
        refine A_iload_n 63 dX10_readNumbers_62 rfl rfl rfl ?_
        refine A_bipush 65 (112) dX10_readNumbers_63 rfl (by decide) ?_
        refine A_icmp_ne 79 68 dX10_readNumbers_65 (by decide) rfl (fun c65 => ?_) (fun c65 => ?_)
        · skip
          try simp only [bI_0, bI_n0, Classical.not_not, Bool.not_eq_false, Bool.true_and, Bool.and_true, decide_eq_true_eq, decide_eq_false_iff_not, dayC_1, dayC_21, dayC_221, dayC_222, inI_1, inI_2, inI_3, inI_5, inI_11, inI_16] at c65
          have es : rnA c.2.1 c.2.2.1 v bs (q, b, tl) = (q, b, tl) := rnA_0 c3 c9 c15 c65
          refine A_vret dX10_readNumbers_79 rfl ⟨rfl, (by rw [es]; exact O28), hf⟩
        · skip
          try simp only [bI_0, bI_n0, Classical.not_not, Bool.not_eq_false, Bool.true_and, Bool.and_true, decide_eq_true_eq, decide_eq_false_iff_not, dayC_1, dayC_21, dayC_221, dayC_222, inI_1, inI_2, inI_3, inI_5, inI_11, inI_16] at c65
          have es := rnA_2 (t := c.2.1) (n := c.2.2.1) (base := bs) (S := (q, b, tl)) c65
          refine A_aload_n 69 dX10_readNumbers_68 rfl rfl rfl ?_
          refine A_getfield 72 dX10_readNumbers_69 rfl f_X10_47 O28 rfl ?_
          refine A_iload_n 73 dX10_readNumbers_72 rfl rfl rfl ?_
          refine A_aload_n 74 dX10_readNumbers_73 rfl rfl rfl ?_
          refine A_iconst 75 (3) dX10_readNumbers_74 rfl (by decide) ?_
          refine A_callVI 78 (S_X10_readDigits X l O28 hn hq (k := 3) (by decide)) dX10_readNumbers_75 rfl kX10_readDigits lk_X10_142 rfl O28 (by decide) rfl (Nat.le_of_ble_eq_true rfl) (fun v_5 h_5 qh_5 => ?_)
          obtain ⟨rfl, n0h_5, eh_5⟩ := qh_5
          replace O28 := n0h_5
          replace hf : ∀ i, i ≠ 28 → h_5 i = h i := fun i g0 => (eh_5 i g0).trans (hf i g0)
          refine T_X10_11 79 dX10_readNumbers_78 rfl O28 (by first | assumption | exact ix_nI (by omega) (by decide) | exact ix_lit _ rfl (by omega) (by decide) | exact ix_lit _ rfl (by decide) (by decide)) (fun h_6 nh_6 eh_6 => ?_)
          replace O28 := nh_6
          replace hf : ∀ i, i ≠ 28 → h_6 i = h i := fun i g0 => (eh_6 i g0).trans (hf i g0)
          try dsimp only at O28
          refine A_vret dX10_readNumbers_79 rfl ⟨rfl, (by rw [es]; exact O28), hf⟩
      · skip
        try simp only [bI_0, bI_n0, Classical.not_not, Bool.not_eq_false, Bool.true_and, Bool.and_true, decide_eq_true_eq, decide_eq_false_iff_not, dayC_1, dayC_21, dayC_221, dayC_222, inI_1, inI_2, inI_3, inI_5, inI_11, inI_16] at c15
        have hv3 : v = 108 ∨ v = 116 ∨ v = 98 := Or.inr (Or.inr c15)
        refine A_joinI 29 (fun vj => vj = nI (rnK v)) (fun j29 => ?_) (fun v29 e29 => ?_)
        · skip
          refine A_iload_n 19 dX10_readNumbers_18 rfl rfl rfl ?_
          refine A_bipush 21 (108) dX10_readNumbers_19 rfl (by decide) ?_
          refine A_icmp_ne 28 24 dX10_readNumbers_21 (by decide) rfl (fun c21 => ?_) (fun c21 => ?_)
          · skip
            try simp only [bI_0, bI_n0, Classical.not_not, Bool.not_eq_false, Bool.true_and, Bool.and_true, decide_eq_true_eq, decide_eq_false_iff_not, dayC_1, dayC_21, dayC_221, dayC_222, inI_1, inI_2, inI_3, inI_5, inI_11, inI_16] at c21
            refine A_iconst 29 (2) dX10_readNumbers_28 rfl (by decide) ?_
            exact j29 _ (by unfold rnK; first | (rw [if_pos c21]; rfl) | (rw [if_neg c21]; rfl))
          · skip
            try simp only [bI_0, bI_n0, Classical.not_not, Bool.not_eq_false, Bool.true_and, Bool.and_true, decide_eq_true_eq, decide_eq_false_iff_not, dayC_1, dayC_21, dayC_221, dayC_222, inI_1, inI_2, inI_3, inI_5, inI_11, inI_16] at c21
            refine A_iconst 25 (4) dX10_readNumbers_24 rfl (by decide) ?_
            refine A_goto 29 dX10_readNumbers_25 (by decide) ?_
            exact j29 _ (by unfold rnK; first | (rw [if_pos c21]; rfl) | (rw [if_neg c21]; rfl))
        subst e29
        have hK := rnK_le v
        refine A_istore_n 30 dX10_readNumbers_29 rfl rfl (by decide) (by first | exact (ast_s (ast_s (ast_1 rfl))) | exact (ast_s (ast_s ast_k))) ?_
        refine A_iconst 31 (0) dX10_readNumbers_30 rfl (by decide) ?_
        refine A_istore 33 dX10_readNumbers_31 rfl (by decide) (by first | exact (ast_s (ast_s (ast_s (ast_1 rfl)))) | exact (ast_s (ast_s (ast_s ast_k)))) ?_
        have L33 : ∀ (nq j : Nat) (q2 : Nat) (b2 : Bool) (t2 : FI) (g33 : Hp) , (nq + j = rnK v) → (foldN (rnF c.2.1 c.2.2.1 bs) ((q, b, tl)) j = (q2, b2, t2)) → (q2 ≤ c.2.2.1) → (g33 28 = some (rB x (-1) c (rd, (q2, bI b2, s, pl, lo, t2), ry, rs))) → (∀ i, i ≠ 28 → g33 i = h i) → Av X l mX10_readNumbers 33 [some (aR 28 0), some (aI (v)), some (aI (nI (bs))), some (aI (nI ((rnK v)))), some (aI (nI (j)))] [] g33 (QV (PV1 h (28) (rB x (-1) c (rd, ((rnA c.2.1 c.2.2.1 v bs (q, b, tl)).1, bI (rnA c.2.1 c.2.2.1 v bs (q, b, tl)).2.1, s, pl, lo, (rnA c.2.1 c.2.2.1 v bs (q, b, tl)).2.2), ry, rs)))) := by
          intro nq
          induction nq using Nat.strongRecOn with
          | _ nq ih =>
          intro j q2 b2 t2 g33 en ee hy O28 hf
          refine A_iload 35 dX10_readNumbers_33 rfl rfl ?_
          refine A_iload_n 36 dX10_readNumbers_35 rfl rfl rfl ?_
          refine A_icmp_ge 59 39 dX10_readNumbers_36 (by decide) rfl (fun c36 => ?_) (fun c36 => ?_)
          · skip
            obtain rfl := (up_ge_T (N := rnK v) c36 rfl (by omega) (by omega)).symm
            have es : rnA c.2.1 c.2.2.1 v bs (q, b, tl) = (q2, b2, t2) := (if_pos hv3).trans ee
            refine A_goto 79 dX10_readNumbers_59 (by decide) ?_
            refine A_vret dX10_readNumbers_79 rfl ⟨rfl, (by rw [es]; exact O28), hf⟩
          · skip
            have hi := up_ge_F (N := rnK v) c36 rfl (by omega) (by omega)
            obtain ⟨n0, rfl⟩ : ∃ q, nq = q + 1 := ⟨nq - 1, by omega⟩
            refine A_aload_n 40 dX10_readNumbers_39 rfl rfl rfl ?_
            refine A_getfield 43 dX10_readNumbers_40 rfl f_X10_47 O28 rfl ?_
            refine A_iload_n 44 dX10_readNumbers_43 rfl rfl rfl ?_
            refine A_iload 46 dX10_readNumbers_44 rfl rfl ?_
            refine A_iadd 47 dX10_readNumbers_46 rfl ?_
            rw [nI_add]
            refine A_aload_n 48 dX10_readNumbers_47 rfl rfl rfl ?_
            refine A_iconst 49 (1) dX10_readNumbers_48 rfl (by decide) ?_
            refine A_callVI 52 (S_X10_readDigits X l O28 hn hy (k := 1) (by decide)) dX10_readNumbers_49 rfl kX10_readDigits lk_X10_142 rfl O28 (by decide) rfl (Nat.le_of_ble_eq_true rfl) (fun v_7 h_7 qh_7 => ?_)
            obtain ⟨rfl, n0h_7, eh_7⟩ := qh_7
            replace O28 := n0h_7
            replace hf : ∀ i, i ≠ 28 → h_7 i = h i := fun i g0 => (eh_7 i g0).trans (hf i g0)
            refine T_X10_11 53 dX10_readNumbers_52 rfl O28 (by first | assumption | exact ix_nI (by omega) (by decide) | exact ix_lit _ rfl (by omega) (by decide) | exact ix_lit _ rfl (by decide) (by decide)) (fun h_8 nh_8 eh_8 => ?_)
            replace O28 := nh_8
            replace hf : ∀ i, i ≠ 28 → h_8 i = h i := fun i g0 => (eh_8 i g0).trans (hf i g0)
            try dsimp only at O28
            first | refine A_iincN 56 dX10_readNumbers_53 rfl rfl (by decide) (by first | exact (ast_s (ast_s (ast_s (ast_1 rfl)))) | exact (ast_s (ast_s (ast_s ast_k)))) ?_ | refine A_iinc 56 (1) dX10_readNumbers_53 rfl rfl (by decide) (by decide) (by first | exact (ast_s (ast_s (ast_s (ast_1 rfl)))) | exact (ast_s (ast_s (ast_s ast_k)))) ?_
            refine A_goto 33 dX10_readNumbers_56 (by decide) ?_
            exact ih n0 (Nat.lt_succ_self n0) (j + 1) _ _ _ h_8  (by omega) ((foldN_s (rnF c.2.1 c.2.2.1 bs) ((q, b, tl)) j).trans ((congrArg ((rnF c.2.1 c.2.2.1 bs) j) ee).trans (by rfl))) (rdS_le (s := (q2, b2, 0)) hy) O28 hf
        exact L33 (rnK v) (0) (_) (_) (_) h  (by omega) (rfl) (hq) O28 hf
set_option maxHeartbeats 4000000 in
set_option maxRecDepth 100000 in
theorem S_X10_readStatement (X : En) (l : Launch) {h : Hp} {x : PW} {c : RC} {rd : RD} {q : Nat} {b : Bool} {s : Nat} {pl lo tl : FI} {ry : RY} {rs : RS} (O28 : h 28 = some (rB x (-1) c (rd, (q, bI b, s, pl, lo, tl), ry, rs))) (hn : c.2.2.1 ≤ 96) (hq : q ≤ c.2.2.1) (hs : s < 49) : Ct X l mX10_readStatement [aR 28 0] h (QV (PV1 h (28) (rB x (-1) c (rd, ((q3F c.2.1 c.2.2.1 (s2F c.2.1 c.2.2.1 s q b tl)), bI (b3F c.2.1 c.2.2.1 (s2F c.2.1 c.2.2.1 s q b tl)), (s + 1), (va_up pl s (nI q)), (va_up lo s (hrV c.2.1 c.2.2.1 q)), (s2F c.2.1 c.2.2.1 s q b tl).2.2), ry, rs)))) := by
  have hf : ∀ i, i ≠ 28 → h i = h i := fun _ _ => rfl
  refine Ct.intro [some (aR 28 0), none, none] (by decide +kernel) rfl (Nat.le_of_ble_eq_true rfl) ?_
  refine A_aload_n 1 dX10_readStatement_0 rfl rfl rfl ?_
  refine A_getfield 4 dX10_readStatement_1 rfl f_X10_145 O28 rfl ?_
  try dsimp only
  refine A_istore_n 5 dX10_readStatement_4 rfl rfl (by decide) (by first | exact (ast_1 rfl) | exact ast_k) ?_
  refine A_aload_n 6 dX10_readStatement_5 rfl rfl rfl ?_
  refine A_callVI 9 (S_X10_here X l (by first | assumption | decide | omega | exact Ne.symm (by assumption)) (by first | assumption | decide | omega | exact Ne.symm (by assumption)) (by first | assumption | decide | omega | exact Ne.symm (by assumption))) dX10_readStatement_6 rfl kX10_here lk_X10_134 rfl O28 (by decide) rfl (Nat.le_of_ble_eq_true rfl) (fun v_1 h_1 qh_1 => ?_)
  obtain ⟨rfl, rfl⟩ := qh_1
  refine A_istore_n 10 dX10_readStatement_9 rfl rfl (by decide) (by first | exact (ast_s (ast_1 rfl)) | exact (ast_s ast_k)) ?_
  refine A_aload_n 11 dX10_readStatement_10 rfl rfl rfl ?_
  refine A_getfield 14 dX10_readStatement_11 rfl f_X10_41 O28 rfl ?_
  refine A_iload_n 15 dX10_readStatement_14 rfl rfl rfl ?_
  refine A_aload_n 16 dX10_readStatement_15 rfl rfl rfl ?_
  refine A_getfield 19 dX10_readStatement_16 rfl f_X10_127 O28 rfl ?_
  try dsimp only
  refine T_X10_9 20 dX10_readStatement_19 rfl O28 (by first | assumption | exact ix_nI (by omega) (by decide) | exact ix_lit _ rfl (by omega) (by decide) | exact ix_lit _ rfl (by decide) (by decide)) (fun h_2 nh_2 eh_2 => ?_)
  replace O28 := nh_2
  replace hf : ∀ i, i ≠ 28 → h_2 i = h i := fun i g0 => (eh_2 i g0).trans (hf i g0)
  try dsimp only at O28
  refine A_aload_n 21 dX10_readStatement_20 rfl rfl rfl ?_
  refine A_getfield 24 dX10_readStatement_21 rfl f_X10_44 O28 rfl ?_
  refine A_iload_n 25 dX10_readStatement_24 rfl rfl rfl ?_
  refine A_iload_n 26 dX10_readStatement_25 rfl rfl rfl ?_
  refine T_X10_10 27 dX10_readStatement_26 rfl O28 (by first | assumption | exact ix_nI (by omega) (by decide) | exact ix_lit _ rfl (by omega) (by decide) | exact ix_lit _ rfl (by decide) (by decide)) (fun h_3 nh_3 eh_3 => ?_)
  replace O28 := nh_3
  replace hf : ∀ i, i ≠ 28 → h_3 i = h i := fun i g0 => (eh_3 i g0).trans (hf i g0)
  try dsimp only at O28
  refine A_aload_n 28 dX10_readStatement_27 rfl rfl rfl ?_
  refine A_joinI 47 (fun vj => vj = bI (b1F c.2.1 c.2.2.1 q b)) (fun j47 => ?_) (fun v47 e47 => ?_)
  · skip
    refine A_aload_n 29 dX10_readStatement_28 rfl rfl rfl ?_
    refine A_getfield 32 dX10_readStatement_29 rfl f_X10_130 O28 rfl ?_
    try dsimp only
    refine A_if_ne 42 35 dX10_readStatement_32 (by decide) rfl (fun c32 => ?_) (fun c32 => ?_)
    · skip
      try simp only [bI_0, bI_n0, Classical.not_not, Bool.not_eq_false, Bool.true_and, Bool.and_true, decide_eq_true_eq, decide_eq_false_iff_not, dayC_1, dayC_21, dayC_221, dayC_222, inI_1, inI_2, inI_3, inI_5, inI_11, inI_16] at c32
      refine A_iconst 43 (1) dX10_readStatement_42 rfl (by decide) ?_
      refine A_goto 47 dX10_readStatement_43 (by decide) ?_
      exact j47 _ (by first | (simp only [c32, if_true, if_false, ite_true, ite_false, and_true, true_and, and_false, false_and, and_self, or_true, true_or, or_false, false_or, or_self, not_true_eq_false, not_false_eq_true, decide_true, decide_false, Bool.and_true, Bool.true_and, Bool.and_false, Bool.false_and, Bool.and_self, Bool.or_true, Bool.true_or, Bool.or_false, Bool.false_or, Bool.not_true, Bool.not_false, cond_true, cond_false, bI_t, bI_f, Bool.false_eq_true, Bool.true_eq_false, dayC_1, dayC_21, dayC_221, dayC_222, b1F, bI]; done) | (simp [b1F, *]; done))
    · skip
      try simp only [bI_0, bI_n0, Classical.not_not, Bool.not_eq_false, Bool.true_and, Bool.and_true, decide_eq_true_eq, decide_eq_false_iff_not, dayC_1, dayC_21, dayC_221, dayC_222, inI_1, inI_2, inI_3, inI_5, inI_11, inI_16] at c32
      refine A_iload_n 36 dX10_readStatement_35 rfl rfl rfl ?_
      refine A_callSI 39 (S_X10_isLetter X l) dX10_readStatement_36 rfl kX10_isLetter lk_X10_148 rfl (by decide) rfl (Nat.le_of_ble_eq_true rfl) (fun v_4 h_4 qh_4 => ?_)
      obtain ⟨rfl, rfl⟩ := qh_4
      refine A_if_ne 46 42 dX10_readStatement_39 (by decide) rfl (fun c39 => ?_) (fun c39 => ?_)
      · skip
        try simp only [bI_0, bI_n0, Classical.not_not, Bool.not_eq_false, Bool.true_and, Bool.and_true, decide_eq_true_eq, decide_eq_false_iff_not, dayC_1, dayC_21, dayC_221, dayC_222, inI_1, inI_2, inI_3, inI_5, inI_11, inI_16] at c39
        refine A_iconst 47 (0) dX10_readStatement_46 rfl (by decide) ?_
        exact j47 _ (by first | (simp only [c32, c39, if_true, if_false, ite_true, ite_false, and_true, true_and, and_false, false_and, and_self, or_true, true_or, or_false, false_or, or_self, not_true_eq_false, not_false_eq_true, decide_true, decide_false, Bool.and_true, Bool.true_and, Bool.and_false, Bool.false_and, Bool.and_self, Bool.or_true, Bool.true_or, Bool.or_false, Bool.false_or, Bool.not_true, Bool.not_false, cond_true, cond_false, bI_t, bI_f, Bool.false_eq_true, Bool.true_eq_false, dayC_1, dayC_21, dayC_221, dayC_222, b1F, bI]; done) | (simp only [eq_true c32, c39, if_true, if_false, ite_true, ite_false, and_true, true_and, and_false, false_and, and_self, or_true, true_or, or_false, false_or, or_self, not_true_eq_false, not_false_eq_true, decide_true, decide_false, Bool.and_true, Bool.true_and, Bool.and_false, Bool.false_and, Bool.and_self, Bool.or_true, Bool.true_or, Bool.or_false, Bool.false_or, Bool.not_true, Bool.not_false, cond_true, cond_false, bI_t, bI_f, Bool.false_eq_true, Bool.true_eq_false, dayC_1, dayC_21, dayC_221, dayC_222, b1F, bI]; done) | (simp [b1F, *]; done))
      · skip
        try simp only [bI_0, bI_n0, Classical.not_not, Bool.not_eq_false, Bool.true_and, Bool.and_true, decide_eq_true_eq, decide_eq_false_iff_not, dayC_1, dayC_21, dayC_221, dayC_222, inI_1, inI_2, inI_3, inI_5, inI_11, inI_16] at c39
        refine A_iconst 43 (1) dX10_readStatement_42 rfl (by decide) ?_
        refine A_goto 47 dX10_readStatement_43 (by decide) ?_
        exact j47 _ (by first | (simp only [c32, c39, if_true, if_false, ite_true, ite_false, and_true, true_and, and_false, false_and, and_self, or_true, true_or, or_false, false_or, or_self, not_true_eq_false, not_false_eq_true, decide_true, decide_false, Bool.and_true, Bool.true_and, Bool.and_false, Bool.false_and, Bool.and_self, Bool.or_true, Bool.true_or, Bool.or_false, Bool.false_or, Bool.not_true, Bool.not_false, cond_true, cond_false, bI_t, bI_f, Bool.false_eq_true, Bool.true_eq_false, dayC_1, dayC_21, dayC_221, dayC_222, b1F, bI]; done) | (simp only [eq_true c32, c39, if_true, if_false, ite_true, ite_false, and_true, true_and, and_false, false_and, and_self, or_true, true_or, or_false, false_or, or_self, not_true_eq_false, not_false_eq_true, decide_true, decide_false, Bool.and_true, Bool.true_and, Bool.and_false, Bool.false_and, Bool.and_self, Bool.or_true, Bool.true_or, Bool.or_false, Bool.false_or, Bool.not_true, Bool.not_false, cond_true, cond_false, bI_t, bI_f, Bool.false_eq_true, Bool.true_eq_false, dayC_1, dayC_21, dayC_221, dayC_222, b1F, bI]; done) | (simp [b1F, *]; done))
  subst e47
  refine P_X10_17 50 dX10_readStatement_47 rfl fw_X10_130 O28 (by first | with_reducible exact bI01 _ | with_reducible exact Or.inl rfl | with_reducible exact Or.inr rfl | assumption) (fun h_5 nh_5 eh_5 => ?_)
  replace O28 := nh_5
  replace hf : ∀ i, i ≠ 28 → h_5 i = h i := fun i g0 => (eh_5 i g0).trans (hf i g0)
  try dsimp only at O28
  refine A_aload_n 51 dX10_readStatement_50 rfl rfl rfl ?_
  refine A_dup 52 dX10_readStatement_51 rfl rfl ?_
  refine A_getfield 55 dX10_readStatement_52 rfl f_X10_127 O28 rfl ?_
  try dsimp only
  refine A_joinI 67 (fun vj => vj = if b1F c.2.1 c.2.2.1 q b = true then 0 else 1) (fun j67 => ?_) (fun v67 e67 => ?_)
  · skip
    refine A_aload_n 56 dX10_readStatement_55 rfl rfl rfl ?_
    refine A_getfield 59 dX10_readStatement_56 rfl f_X10_130 O28 rfl ?_
    try dsimp only
    refine A_if_eq 66 62 dX10_readStatement_59 (by decide) rfl (fun c59 => ?_) (fun c59 => ?_)
    · skip
      try simp only [bI_0, bI_n0, Classical.not_not, Bool.not_eq_false, Bool.true_and, Bool.and_true, decide_eq_true_eq, decide_eq_false_iff_not, dayC_1, dayC_21, dayC_221, dayC_222, inI_1, inI_2, inI_3, inI_5, inI_11, inI_16] at c59
      refine A_iconst 67 (1) dX10_readStatement_66 rfl (by decide) ?_
      exact j67 _ (by first | rw [if_pos c59] | rw [if_neg (by rw [c59]; decide)])
    · skip
      try simp only [bI_0, bI_n0, Classical.not_not, Bool.not_eq_false, Bool.true_and, Bool.and_true, decide_eq_true_eq, decide_eq_false_iff_not, dayC_1, dayC_21, dayC_221, dayC_222, inI_1, inI_2, inI_3, inI_5, inI_11, inI_16] at c59
      refine A_iconst 63 (0) dX10_readStatement_62 rfl (by decide) ?_
      refine A_goto 67 dX10_readStatement_63 (by decide) ?_
      exact j67 _ (by first | rw [if_pos c59] | rw [if_neg (by rw [c59]; decide)])
  subst e67
  refine A_iadd 68 dX10_readStatement_67 rfl ?_
  rw [st_n]
  refine P_X10_16 71 dX10_readStatement_68 rfl fw_X10_127 O28 (fun h_6 nh_6 eh_6 => ?_)
  replace O28 := nh_6
  replace hf : ∀ i, i ≠ 28 → h_6 i = h i := fun i g0 => (eh_6 i g0).trans (hf i g0)
  try dsimp only at O28
  refine A_aload_n 72 dX10_readStatement_71 rfl rfl rfl ?_
  refine A_getfield 75 dX10_readStatement_72 rfl f_X10_130 O28 rfl ?_
  try dsimp only
  refine A_if_ne 86 78 dX10_readStatement_75 (by decide) rfl (fun c75 => ?_) (fun c75 => ?_)
  · skip
    try simp only [bI_0, bI_n0, Classical.not_not, Bool.not_eq_false, Bool.true_and, Bool.and_true, decide_eq_true_eq, decide_eq_false_iff_not, dayC_1, dayC_21, dayC_221, dayC_222, inI_1, inI_2, inI_3, inI_5, inI_11, inI_16] at c75
    have es2 : s2F c.2.1 c.2.2.1 s q b tl = (q1F c.2.1 c.2.2.1 q b, b1F c.2.1 c.2.2.1 q b, tl) := if_pos c75
    replace O28 : h_6 28 = some (rB x (-1) c (rd, ((s2F c.2.1 c.2.2.1 s q b tl).1, bI (s2F c.2.1 c.2.2.1 s q b tl).2.1, s, (va_up pl s (nI q)), (va_up lo s (hrV c.2.1 c.2.2.1 q)), (s2F c.2.1 c.2.2.1 s q b tl).2.2), ry, rs)) := by rw [es2]; exact O28
    refine A_aload_n 87 dX10_readStatement_86 rfl rfl rfl ?_
    refine A_joinI 108 (fun vj => vj = bI (b3F c.2.1 c.2.2.1 (s2F c.2.1 c.2.2.1 s q b tl))) (fun j108 => ?_) (fun v108 e108 => ?_)
    · skip
      refine A_aload_n 88 dX10_readStatement_87 rfl rfl rfl ?_
      refine A_getfield 91 dX10_readStatement_88 rfl f_X10_130 O28 rfl ?_
      try dsimp only
      refine A_if_ne 103 94 dX10_readStatement_91 (by decide) rfl (fun c91 => ?_) (fun c91 => ?_)
      · skip
        try simp only [bI_0, bI_n0, Classical.not_not, Bool.not_eq_false, Bool.true_and, Bool.and_true, decide_eq_true_eq, decide_eq_false_iff_not, dayC_1, dayC_21, dayC_221, dayC_222, inI_1, inI_2, inI_3, inI_5, inI_11, inI_16] at c91
        refine A_iconst 104 (1) dX10_readStatement_103 rfl (by decide) ?_
        refine A_goto 108 dX10_readStatement_104 (by decide) ?_
        exact j108 _ (by first | (simp only [c75, c91, if_true, if_false, ite_true, ite_false, and_true, true_and, and_false, false_and, and_self, or_true, true_or, or_false, false_or, or_self, not_true_eq_false, not_false_eq_true, decide_true, decide_false, Bool.and_true, Bool.true_and, Bool.and_false, Bool.false_and, Bool.and_self, Bool.or_true, Bool.true_or, Bool.or_false, Bool.false_or, Bool.not_true, Bool.not_false, cond_true, cond_false, bI_t, bI_f, Bool.false_eq_true, Bool.true_eq_false, dayC_1, dayC_21, dayC_221, dayC_222, b3F, bI]; done) | (simp [b3F, *]; done))
      · skip
        try simp only [bI_0, bI_n0, Classical.not_not, Bool.not_eq_false, Bool.true_and, Bool.and_true, decide_eq_true_eq, decide_eq_false_iff_not, dayC_1, dayC_21, dayC_221, dayC_222, inI_1, inI_2, inI_3, inI_5, inI_11, inI_16] at c91
        refine A_aload_n 95 dX10_readStatement_94 rfl rfl rfl ?_
        refine A_callVI 98 (S_X10_here X l O28 hn (s2_le hq)) dX10_readStatement_95 rfl kX10_here lk_X10_134 rfl O28 (by decide) rfl (Nat.le_of_ble_eq_true rfl) (fun v_7 h_7 qh_7 => ?_)
        obtain ⟨rfl, rfl⟩ := qh_7
        refine A_bipush 100 (59) dX10_readStatement_98 rfl (by decide) ?_
        refine A_icmp_eq 107 103 dX10_readStatement_100 (by decide) rfl (fun c100 => ?_) (fun c100 => ?_)
        · skip
          try simp only [bI_0, bI_n0, Classical.not_not, Bool.not_eq_false, Bool.true_and, Bool.and_true, decide_eq_true_eq, decide_eq_false_iff_not, dayC_1, dayC_21, dayC_221, dayC_222, inI_1, inI_2, inI_3, inI_5, inI_11, inI_16] at c100
          refine A_iconst 108 (0) dX10_readStatement_107 rfl (by decide) ?_
          exact j108 _ (by first | (simp only [c75, c91, c100, if_true, if_false, ite_true, ite_false, and_true, true_and, and_false, false_and, and_self, or_true, true_or, or_false, false_or, or_self, not_true_eq_false, not_false_eq_true, decide_true, decide_false, Bool.and_true, Bool.true_and, Bool.and_false, Bool.false_and, Bool.and_self, Bool.or_true, Bool.true_or, Bool.or_false, Bool.false_or, Bool.not_true, Bool.not_false, cond_true, cond_false, bI_t, bI_f, Bool.false_eq_true, Bool.true_eq_false, dayC_1, dayC_21, dayC_221, dayC_222, b3F, bI]; done) | (simp only [c75, eq_true c91, eq_true c100, if_true, if_false, ite_true, ite_false, and_true, true_and, and_false, false_and, and_self, or_true, true_or, or_false, false_or, or_self, not_true_eq_false, not_false_eq_true, decide_true, decide_false, Bool.and_true, Bool.true_and, Bool.and_false, Bool.false_and, Bool.and_self, Bool.or_true, Bool.true_or, Bool.or_false, Bool.false_or, Bool.not_true, Bool.not_false, cond_true, cond_false, bI_t, bI_f, Bool.false_eq_true, Bool.true_eq_false, dayC_1, dayC_21, dayC_221, dayC_222, b3F, bI]; done) | (simp [b3F, *]; done))
        · skip
          try simp only [bI_0, bI_n0, Classical.not_not, Bool.not_eq_false, Bool.true_and, Bool.and_true, decide_eq_true_eq, decide_eq_false_iff_not, dayC_1, dayC_21, dayC_221, dayC_222, inI_1, inI_2, inI_3, inI_5, inI_11, inI_16] at c100
          refine A_iconst 104 (1) dX10_readStatement_103 rfl (by decide) ?_
          refine A_goto 108 dX10_readStatement_104 (by decide) ?_
          exact j108 _ (by first | (simp only [c75, c91, c100, if_true, if_false, ite_true, ite_false, and_true, true_and, and_false, false_and, and_self, or_true, true_or, or_false, false_or, or_self, not_true_eq_false, not_false_eq_true, decide_true, decide_false, Bool.and_true, Bool.true_and, Bool.and_false, Bool.false_and, Bool.and_self, Bool.or_true, Bool.true_or, Bool.or_false, Bool.false_or, Bool.not_true, Bool.not_false, cond_true, cond_false, bI_t, bI_f, Bool.false_eq_true, Bool.true_eq_false, dayC_1, dayC_21, dayC_221, dayC_222, b3F, bI]; done) | (simp only [c75, eq_true c91, c100, if_true, if_false, ite_true, ite_false, and_true, true_and, and_false, false_and, and_self, or_true, true_or, or_false, false_or, or_self, not_true_eq_false, not_false_eq_true, decide_true, decide_false, Bool.and_true, Bool.true_and, Bool.and_false, Bool.false_and, Bool.and_self, Bool.or_true, Bool.true_or, Bool.or_false, Bool.false_or, Bool.not_true, Bool.not_false, cond_true, cond_false, bI_t, bI_f, Bool.false_eq_true, Bool.true_eq_false, dayC_1, dayC_21, dayC_221, dayC_222, b3F, bI]; done) | (simp [b3F, *]; done))
    subst e108
    refine P_X10_17 111 dX10_readStatement_108 rfl fw_X10_130 O28 (by first | with_reducible exact bI01 _ | with_reducible exact Or.inl rfl | with_reducible exact Or.inr rfl | assumption) (fun h_8 nh_8 eh_8 => ?_)
    replace O28 := nh_8
    replace hf : ∀ i, i ≠ 28 → h_8 i = h i := fun i g0 => (eh_8 i g0).trans (hf i g0)
    try dsimp only at O28
    refine A_aload_n 112 dX10_readStatement_111 rfl rfl rfl ?_
    refine A_dup 113 dX10_readStatement_112 rfl rfl ?_
    refine A_getfield 116 dX10_readStatement_113 rfl f_X10_127 O28 rfl ?_
    try dsimp only
    refine A_joinI 128 (fun vj => vj = if b3F c.2.1 c.2.2.1 (s2F c.2.1 c.2.2.1 s q b tl) = true then 0 else 1) (fun j128 => ?_) (fun v128 e128 => ?_)
    · skip
      refine A_aload_n 117 dX10_readStatement_116 rfl rfl rfl ?_
      refine A_getfield 120 dX10_readStatement_117 rfl f_X10_130 O28 rfl ?_
      try dsimp only
      refine A_if_eq 127 123 dX10_readStatement_120 (by decide) rfl (fun c120 => ?_) (fun c120 => ?_)
      · skip
        try simp only [bI_0, bI_n0, Classical.not_not, Bool.not_eq_false, Bool.true_and, Bool.and_true, decide_eq_true_eq, decide_eq_false_iff_not, dayC_1, dayC_21, dayC_221, dayC_222, inI_1, inI_2, inI_3, inI_5, inI_11, inI_16] at c120
        refine A_iconst 128 (1) dX10_readStatement_127 rfl (by decide) ?_
        exact j128 _ (by first | rw [if_pos c120] | rw [if_neg (by rw [c120]; decide)])
      · skip
        try simp only [bI_0, bI_n0, Classical.not_not, Bool.not_eq_false, Bool.true_and, Bool.and_true, decide_eq_true_eq, decide_eq_false_iff_not, dayC_1, dayC_21, dayC_221, dayC_222, inI_1, inI_2, inI_3, inI_5, inI_11, inI_16] at c120
        refine A_iconst 124 (0) dX10_readStatement_123 rfl (by decide) ?_
        refine A_goto 128 dX10_readStatement_124 (by decide) ?_
        exact j128 _ (by first | rw [if_pos c120] | rw [if_neg (by rw [c120]; decide)])
    subst e128
    refine A_iadd 129 dX10_readStatement_128 rfl ?_
    rw [st_n]
    refine P_X10_16 132 dX10_readStatement_129 rfl fw_X10_127 O28 (fun h_9 nh_9 eh_9 => ?_)
    replace O28 := nh_9
    replace hf : ∀ i, i ≠ 28 → h_9 i = h i := fun i g0 => (eh_9 i g0).trans (hf i g0)
    try dsimp only at O28
    refine A_aload_n 133 dX10_readStatement_132 rfl rfl rfl ?_
    refine A_dup 134 dX10_readStatement_133 rfl rfl ?_
    refine A_getfield 137 dX10_readStatement_134 rfl f_X10_145 O28 rfl ?_
    try dsimp only
    refine A_iconst 138 (1) dX10_readStatement_137 rfl (by decide) ?_
    refine A_iadd 139 dX10_readStatement_138 rfl ?_
    rw [n41]
    refine P_X10_18 142 dX10_readStatement_139 rfl fw_X10_145 O28 (fun h_10 nh_10 eh_10 => ?_)
    replace O28 := nh_10
    replace hf : ∀ i, i ≠ 28 → h_10 i = h i := fun i g0 => (eh_10 i g0).trans (hf i g0)
    try dsimp only at O28
    refine A_vret dX10_readStatement_142 rfl ⟨rfl, O28, hf⟩
  · skip
    try simp only [bI_0, bI_n0, Classical.not_not, Bool.not_eq_false, Bool.true_and, Bool.and_true, decide_eq_true_eq, decide_eq_false_iff_not, dayC_1, dayC_21, dayC_221, dayC_222, inI_1, inI_2, inI_3, inI_5, inI_11, inI_16] at c75
    refine A_aload_n 79 dX10_readStatement_78 rfl rfl rfl ?_
    refine A_iload_n 80 dX10_readStatement_79 rfl rfl rfl ?_
    refine A_iconst 81 (4) dX10_readStatement_80 rfl (by decide) ?_
    refine A_iload_n 82 dX10_readStatement_81 rfl rfl rfl ?_
    refine A_imul 83 dX10_readStatement_82 rfl ?_
    rw [show (4 : Int32) = nI 4 from rfl, nI_mulr]
    refine A_callVV 86 (S_X10_readNumbers X l (q := q1F c.2.1 c.2.2.1 q b) (b := b1F c.2.1 c.2.2.1 q b) O28 hn (q1_le hq) (by omega)) dX10_readStatement_83 rfl kX10_readNumbers lk_X10_152 rfl O28 (by decide) rfl (Nat.le_of_ble_eq_true rfl) (fun h_11 qh_11 => ?_)
    obtain ⟨n0h_11, eh_11⟩ := qh_11
    replace O28 := n0h_11
    replace hf : ∀ i, i ≠ 28 → h_11 i = h i := fun i g0 => (eh_11 i g0).trans (hf i g0)
    have es2 : s2F c.2.1 c.2.2.1 s q b tl = rnA c.2.1 c.2.2.1 (hrV c.2.1 c.2.2.1 q) (4 * s) (q1F c.2.1 c.2.2.1 q b, b1F c.2.1 c.2.2.1 q b, tl) := if_neg (by rw [c75]; decide)
    replace O28 : h_11 28 = some (rB x (-1) c (rd, ((s2F c.2.1 c.2.2.1 s q b tl).1, bI (s2F c.2.1 c.2.2.1 s q b tl).2.1, s, (va_up pl s (nI q)), (va_up lo s (hrV c.2.1 c.2.2.1 q)), (s2F c.2.1 c.2.2.1 s q b tl).2.2), ry, rs)) := by rw [es2]; exact O28
    refine A_aload_n 87 dX10_readStatement_86 rfl rfl rfl ?_
    refine A_joinI 108 (fun vj => vj = bI (b3F c.2.1 c.2.2.1 (s2F c.2.1 c.2.2.1 s q b tl))) (fun j108 => ?_) (fun v108 e108 => ?_)
    · skip
      refine A_aload_n 88 dX10_readStatement_87 rfl rfl rfl ?_
      refine A_getfield 91 dX10_readStatement_88 rfl f_X10_130 O28 rfl ?_
      try dsimp only
      refine A_if_ne 103 94 dX10_readStatement_91 (by decide) rfl (fun c91 => ?_) (fun c91 => ?_)
      · skip
        try simp only [bI_0, bI_n0, Classical.not_not, Bool.not_eq_false, Bool.true_and, Bool.and_true, decide_eq_true_eq, decide_eq_false_iff_not, dayC_1, dayC_21, dayC_221, dayC_222, inI_1, inI_2, inI_3, inI_5, inI_11, inI_16] at c91
        refine A_iconst 104 (1) dX10_readStatement_103 rfl (by decide) ?_
        refine A_goto 108 dX10_readStatement_104 (by decide) ?_
        exact j108 _ (by first | (simp only [c75, c91, if_true, if_false, ite_true, ite_false, and_true, true_and, and_false, false_and, and_self, or_true, true_or, or_false, false_or, or_self, not_true_eq_false, not_false_eq_true, decide_true, decide_false, Bool.and_true, Bool.true_and, Bool.and_false, Bool.false_and, Bool.and_self, Bool.or_true, Bool.true_or, Bool.or_false, Bool.false_or, Bool.not_true, Bool.not_false, cond_true, cond_false, bI_t, bI_f, Bool.false_eq_true, Bool.true_eq_false, dayC_1, dayC_21, dayC_221, dayC_222, b3F, bI]; done) | (simp only [eq_true c75, c91, if_true, if_false, ite_true, ite_false, and_true, true_and, and_false, false_and, and_self, or_true, true_or, or_false, false_or, or_self, not_true_eq_false, not_false_eq_true, decide_true, decide_false, Bool.and_true, Bool.true_and, Bool.and_false, Bool.false_and, Bool.and_self, Bool.or_true, Bool.true_or, Bool.or_false, Bool.false_or, Bool.not_true, Bool.not_false, cond_true, cond_false, bI_t, bI_f, Bool.false_eq_true, Bool.true_eq_false, dayC_1, dayC_21, dayC_221, dayC_222, b3F, bI]; done) | (simp [b3F, *]; done))
      · skip
        try simp only [bI_0, bI_n0, Classical.not_not, Bool.not_eq_false, Bool.true_and, Bool.and_true, decide_eq_true_eq, decide_eq_false_iff_not, dayC_1, dayC_21, dayC_221, dayC_222, inI_1, inI_2, inI_3, inI_5, inI_11, inI_16] at c91
        refine A_aload_n 95 dX10_readStatement_94 rfl rfl rfl ?_
        refine A_callVI 98 (S_X10_here X l O28 hn (s2_le hq)) dX10_readStatement_95 rfl kX10_here lk_X10_134 rfl O28 (by decide) rfl (Nat.le_of_ble_eq_true rfl) (fun v_12 h_12 qh_12 => ?_)
        obtain ⟨rfl, rfl⟩ := qh_12
        refine A_bipush 100 (59) dX10_readStatement_98 rfl (by decide) ?_
        refine A_icmp_eq 107 103 dX10_readStatement_100 (by decide) rfl (fun c100 => ?_) (fun c100 => ?_)
        · skip
          try simp only [bI_0, bI_n0, Classical.not_not, Bool.not_eq_false, Bool.true_and, Bool.and_true, decide_eq_true_eq, decide_eq_false_iff_not, dayC_1, dayC_21, dayC_221, dayC_222, inI_1, inI_2, inI_3, inI_5, inI_11, inI_16] at c100
          refine A_iconst 108 (0) dX10_readStatement_107 rfl (by decide) ?_
          exact j108 _ (by first | (simp only [c75, c91, c100, if_true, if_false, ite_true, ite_false, and_true, true_and, and_false, false_and, and_self, or_true, true_or, or_false, false_or, or_self, not_true_eq_false, not_false_eq_true, decide_true, decide_false, Bool.and_true, Bool.true_and, Bool.and_false, Bool.false_and, Bool.and_self, Bool.or_true, Bool.true_or, Bool.or_false, Bool.false_or, Bool.not_true, Bool.not_false, cond_true, cond_false, bI_t, bI_f, Bool.false_eq_true, Bool.true_eq_false, dayC_1, dayC_21, dayC_221, dayC_222, b3F, bI]; done) | (simp only [eq_true c75, eq_true c91, eq_true c100, if_true, if_false, ite_true, ite_false, and_true, true_and, and_false, false_and, and_self, or_true, true_or, or_false, false_or, or_self, not_true_eq_false, not_false_eq_true, decide_true, decide_false, Bool.and_true, Bool.true_and, Bool.and_false, Bool.false_and, Bool.and_self, Bool.or_true, Bool.true_or, Bool.or_false, Bool.false_or, Bool.not_true, Bool.not_false, cond_true, cond_false, bI_t, bI_f, Bool.false_eq_true, Bool.true_eq_false, dayC_1, dayC_21, dayC_221, dayC_222, b3F, bI]; done) | (simp [b3F, *]; done))
        · skip
          try simp only [bI_0, bI_n0, Classical.not_not, Bool.not_eq_false, Bool.true_and, Bool.and_true, decide_eq_true_eq, decide_eq_false_iff_not, dayC_1, dayC_21, dayC_221, dayC_222, inI_1, inI_2, inI_3, inI_5, inI_11, inI_16] at c100
          refine A_iconst 104 (1) dX10_readStatement_103 rfl (by decide) ?_
          refine A_goto 108 dX10_readStatement_104 (by decide) ?_
          exact j108 _ (by first | (simp only [c75, c91, c100, if_true, if_false, ite_true, ite_false, and_true, true_and, and_false, false_and, and_self, or_true, true_or, or_false, false_or, or_self, not_true_eq_false, not_false_eq_true, decide_true, decide_false, Bool.and_true, Bool.true_and, Bool.and_false, Bool.false_and, Bool.and_self, Bool.or_true, Bool.true_or, Bool.or_false, Bool.false_or, Bool.not_true, Bool.not_false, cond_true, cond_false, bI_t, bI_f, Bool.false_eq_true, Bool.true_eq_false, dayC_1, dayC_21, dayC_221, dayC_222, b3F, bI]; done) | (simp only [eq_true c75, eq_true c91, c100, if_true, if_false, ite_true, ite_false, and_true, true_and, and_false, false_and, and_self, or_true, true_or, or_false, false_or, or_self, not_true_eq_false, not_false_eq_true, decide_true, decide_false, Bool.and_true, Bool.true_and, Bool.and_false, Bool.false_and, Bool.and_self, Bool.or_true, Bool.true_or, Bool.or_false, Bool.false_or, Bool.not_true, Bool.not_false, cond_true, cond_false, bI_t, bI_f, Bool.false_eq_true, Bool.true_eq_false, dayC_1, dayC_21, dayC_221, dayC_222, b3F, bI]; done) | (simp [b3F, *]; done))
    subst e108
    refine P_X10_17 111 dX10_readStatement_108 rfl fw_X10_130 O28 (by first | with_reducible exact bI01 _ | with_reducible exact Or.inl rfl | with_reducible exact Or.inr rfl | assumption) (fun h_13 nh_13 eh_13 => ?_)
    replace O28 := nh_13
    replace hf : ∀ i, i ≠ 28 → h_13 i = h i := fun i g0 => (eh_13 i g0).trans (hf i g0)
    try dsimp only at O28
    refine A_aload_n 112 dX10_readStatement_111 rfl rfl rfl ?_
    refine A_dup 113 dX10_readStatement_112 rfl rfl ?_
    refine A_getfield 116 dX10_readStatement_113 rfl f_X10_127 O28 rfl ?_
    try dsimp only
    refine A_joinI 128 (fun vj => vj = if b3F c.2.1 c.2.2.1 (s2F c.2.1 c.2.2.1 s q b tl) = true then 0 else 1) (fun j128 => ?_) (fun v128 e128 => ?_)
    · skip
      refine A_aload_n 117 dX10_readStatement_116 rfl rfl rfl ?_
      refine A_getfield 120 dX10_readStatement_117 rfl f_X10_130 O28 rfl ?_
      try dsimp only
      refine A_if_eq 127 123 dX10_readStatement_120 (by decide) rfl (fun c120 => ?_) (fun c120 => ?_)
      · skip
        try simp only [bI_0, bI_n0, Classical.not_not, Bool.not_eq_false, Bool.true_and, Bool.and_true, decide_eq_true_eq, decide_eq_false_iff_not, dayC_1, dayC_21, dayC_221, dayC_222, inI_1, inI_2, inI_3, inI_5, inI_11, inI_16] at c120
        refine A_iconst 128 (1) dX10_readStatement_127 rfl (by decide) ?_
        exact j128 _ (by first | rw [if_pos c120] | rw [if_neg (by rw [c120]; decide)])
      · skip
        try simp only [bI_0, bI_n0, Classical.not_not, Bool.not_eq_false, Bool.true_and, Bool.and_true, decide_eq_true_eq, decide_eq_false_iff_not, dayC_1, dayC_21, dayC_221, dayC_222, inI_1, inI_2, inI_3, inI_5, inI_11, inI_16] at c120
        refine A_iconst 124 (0) dX10_readStatement_123 rfl (by decide) ?_
        refine A_goto 128 dX10_readStatement_124 (by decide) ?_
        exact j128 _ (by first | rw [if_pos c120] | rw [if_neg (by rw [c120]; decide)])
    subst e128
    refine A_iadd 129 dX10_readStatement_128 rfl ?_
    rw [st_n]
    refine P_X10_16 132 dX10_readStatement_129 rfl fw_X10_127 O28 (fun h_14 nh_14 eh_14 => ?_)
    replace O28 := nh_14
    replace hf : ∀ i, i ≠ 28 → h_14 i = h i := fun i g0 => (eh_14 i g0).trans (hf i g0)
    try dsimp only at O28
    refine A_aload_n 133 dX10_readStatement_132 rfl rfl rfl ?_
    refine A_dup 134 dX10_readStatement_133 rfl rfl ?_
    refine A_getfield 137 dX10_readStatement_134 rfl f_X10_145 O28 rfl ?_
    try dsimp only
    refine A_iconst 138 (1) dX10_readStatement_137 rfl (by decide) ?_
    refine A_iadd 139 dX10_readStatement_138 rfl ?_
    rw [n41]
    refine P_X10_18 142 dX10_readStatement_139 rfl fw_X10_145 O28 (fun h_15 nh_15 eh_15 => ?_)
    replace O28 := nh_15
    replace hf : ∀ i, i ≠ 28 → h_15 i = h i := fun i g0 => (eh_15 i g0).trans (hf i g0)
    try dsimp only at O28
    refine A_vret dX10_readStatement_142 rfl ⟨rfl, O28, hf⟩
